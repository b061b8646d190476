/-! PURE PART: a mark's side. -/
def bothV (n : Nat) (S : XS) : Prop := (∃ i, i < n ∧ S 4 i = 0) ∧ (∃ i, i < n ∧ S 4 i = 1)
theorem or_b01 {c d : Prop} : b01 c ||| b01 d = b01 (c ∨ d) := by
  by_cases hc : c
  · by_cases hd : d
    · rw [b01_t hc, b01_t hd, b01_t (Or.inl hc)]; decide
    · rw [b01_t hc, b01_f hd, b01_t (Or.inl hc)]; decide
  · by_cases hd : d
    · rw [b01_f hc, b01_t hd, b01_t (Or.inr hd)]; decide
    · rw [b01_f hc, b01_f hd, b01_f (fun q => q.elim hc hd)]; decide
theorem ex_succ {p : Nat → Prop} {i : Nat} : (∃ j, j < i + 1 ∧ p j) ↔ (∃ j, j < i ∧ p j) ∨ p i := by
  constructor
  · rintro ⟨j, h1, h2⟩
    by_cases e : j = i
    · subst e
      exact Or.inr h2
    · exact Or.inl ⟨j, by omega, h2⟩
  · rintro (⟨j, h1, h2⟩ | h)
    · exact ⟨j, by omega, h2⟩
    · exact ⟨i, by omega, h⟩
theorem q_both {S : XS} {n : Nat} (hn : S 0 1 = nI n) (h40 : n ≤ 40) : m_X6_areBoth [.inr 0] S = ri S (b01 (bothV n S)) := by
  rw [u_X6_areBoth]
  refine lp0 (b := fun fl i (a : Int32 × Int32) => b_X6_areBoth_6 fl [(0, .inr 0), (1, .inl a.1), (2, .inl a.2), (3, .inl (nI i))] [] S) (N := n) (by omega) (s := (0, 0)) (fun i a => a.1 = b01 (∃ j, j < i ∧ S 4 j = 0) ∧ a.2 = b01 (∃ j, j < i ∧ S 4 j = 1)) (fun r => r = ri S (b01 (bothV n S))) ⟨(b01_f (fun ⟨j, q, _⟩ => by omega)).symm, (b01_f (fun ⟨j, q, _⟩ => by omega)).symm⟩ ?_ ?_
  · rintro fl i ⟨x, y⟩ hi ⟨h1, h2⟩
    left
    dsimp only at h1 h2
    simp only [u_X6_areBoth_6, hn, if_neg (nI_ge hi (by omega)), gA_nI (show i < 40 by omega) (by decide), nI_clamp (show i < 2 ^ 31 by omega), nI_1]
    refine ⟨(x ||| b01 (S 4 i = 0), y ||| b01 (S 4 i = 1)), ⟨?_, ?_⟩, ?_⟩
    · dsimp only
      rw [h1, or_b01, b01_iff ex_succ]
    · dsimp only
      rw [h2, or_b01, b01_iff ex_succ]
    · by_cases q1 : S 4 i = 0
      · by_cases q2 : S 4 i = 1
        · rw [if_pos q1, if_pos q2, b01_t q1, b01_t q2]
        · rw [if_pos q1, if_neg q2, b01_t q1, b01_f q2]
      · by_cases q2 : S 4 i = 1
        · rw [if_neg q1, if_pos q2, b01_f q1, b01_t q2]
        · rw [if_neg q1, if_neg q2, b01_f q1, b01_f q2]
  · rintro fl ⟨x, y⟩ ⟨h1, h2⟩
    dsimp only at h1 h2
    simp only [u_X6_areBoth_6, hn, if_pos (nI_le (Nat.le_refl n) (by omega))]
    subst h1
    subst h2
    by_cases q1 : ∃ j, j < n ∧ S 4 j = 0
    · by_cases q2 : ∃ j, j < n ∧ S 4 j = 1
      · rw [b01_t q1, b01_t q2, b01_t (show bothV n S from ⟨q1, q2⟩)]; rfl
      · rw [b01_t q1, b01_f q2, b01_f (fun w : bothV n S => q2 w.2)]; rfl
    · rw [b01_f q1, b01_f (fun w : bothV n S => q1 w.1)]; rfl
theorem RB.both {n k z : Nat} {S Sm : XS} (h : RB n k z S Sm) : m_X0_haveBothVoices [.inr 1] S = ri S (b01 (bothV n Sm)) := by
  have hn := h.1.1
  have h40 := h.n40
  have hv : ∀ i, i < n → S 10 i = Sm 4 i ∧ (Sm 4 i = 0 ∨ Sm 4 i = 1) := fun i hi => ⟨(h.1.2.2.2 i hi).1.2.2.2.1, (h.1.2.2.2 i hi).2.2.1⟩
  rw [u_X0_haveBothVoices]
  refine lp0 (b := fun fl i (a : Int32) => b_X0_haveBothVoices_4 fl [(0, .inr 1), (1, .inl a), (2, .inl (nI i))] [] S) (N := n) (by omega) (s := 0) (fun i a => ∃ q, a = nI q ∧ q ≤ i ∧ (0 < q ↔ ∃ j, j < i ∧ Sm 4 j = 1) ∧ (q < i ↔ ∃ j, j < i ∧ Sm 4 j = 0)) (fun r => r = ri S (b01 (bothV n Sm))) ⟨0, rfl, Nat.le_refl _, ⟨fun w => by omega, fun ⟨j, w, _⟩ => by omega⟩, ⟨fun w => by omega, fun ⟨j, w, _⟩ => by omega⟩⟩ ?_ ?_
  · rintro fl i x hi ⟨q, rfl, q1, q2, q3⟩
    left
    simp only [u_X0_haveBothVoices_4, hn, if_neg (nI_ge hi (by omega)), gA_nI (show i < 40 by omega) (by decide), nI_clamp (show i < 2 ^ 31 by omega), nI_1]
    refine ⟨_, ?_, rfl⟩
    obtain ⟨e, w⟩ := hv i hi
    rw [e]
    rcases w with w | w
    · rw [w]
      refine ⟨q, by rw [Int32.add_zero], by omega, ?_, ?_⟩
      · rw [ex_succ, q2]
        exact ⟨Or.inl, fun v => v.elim id (fun v => absurd (w.symm.trans v) (by decide))⟩
      · rw [ex_succ]
        exact ⟨fun _ => Or.inr w, fun _ => by omega⟩
    · rw [w]
      refine ⟨q + 1, nI_1 q, by omega, ?_, ?_⟩
      · rw [ex_succ]
        exact ⟨fun _ => Or.inr w, fun _ => by omega⟩
      · rw [ex_succ, ← q3]
        exact ⟨fun _ => Or.inl (by omega), fun v => v.elim (fun _ => by omega) (fun v => absurd (w.symm.trans v) (by decide))⟩
  · rintro fl x ⟨q, rfl, q1, q2, q3⟩
    simp only [u_X0_haveBothVoices_4, hn, if_pos (nI_le (Nat.le_refl n) (by omega))]
    by_cases w1 : 0 < q
    · rw [if_neg (nI_nle w1 (by omega))]
      by_cases w2 : q < n
      · rw [if_neg (nI_ge w2 (by omega)), b01_t (show bothV n Sm from ⟨q3.mp w2, q2.mp w1⟩)]
      · rw [if_pos (nI_le (by omega) (by omega)), b01_f (fun w : bothV n Sm => w2 (q3.mpr w.1))]
    · have e : q = 0 := by omega
      subst e
      rw [if_pos (by decide), b01_f (fun w : bothV n Sm => w1 (q2.mpr w.2))]
/-- the side of a mark -/
def sdv (S : XS) (j : Nat) : Int32 := if S 4 (mI S j) = 0 then 1 else -1
def sds (S : XS) (j : Nat) : Int32 := if S 5 (mI S j) = 0 then sdv S j else S 5 (mI S j)
noncomputable def sd (n : Nat) (S : XS) (j : Nat) : Int32 := @ite _ (mG S j 1 = 0) _ (@ite _ (bothV n S) (Classical.propDecidable _) (sdv S j) (sds S j)) (@ite _ (mG S j 1 = 1) _ (@ite _ (bothV n S) (Classical.propDecidable _) (sdv S j) (-(sds S j))) (if mG S j 1 = 2 then 1 else -1))
theorem sdv_pm (S : XS) (j : Nat) : sdP (sdv S j) := by
  unfold sdv
  split
  · exact Or.inl rfl
  · exact Or.inr rfl
theorem RB.sds_pm {n k z : Nat} {S Sm : XS} (h : RB n k z S Sm) {j : Nat} (hj : j < k) : sdP (sds Sm j) := by
  unfold sds
  split
  · exact sdv_pm _ _
  · rename_i q
    rcases (h.1.2.2.2 _ (h.hi hj).1).2.2.2.1 with e | e | e
    · exact Or.inr e
    · exact absurd e q
    · exact Or.inl e
theorem sdP_neg {a : Int32} (h : sdP a) : sdP (-a) := by
  rcases h with e | e <;> subst e
  · exact Or.inr (by decide)
  · exact Or.inl (by decide)
theorem RB.sd_pm {n k z : Nat} {S Sm : XS} (h : RB n k z S Sm) {j : Nat} (hj : j < k) : sdP (sd n Sm j) := by
  unfold sd
  split
  · split
    · exact sdv_pm _ _
    · exact h.sds_pm hj
  · split
    · split
      · exact sdv_pm _ _
      · exact sdP_neg (h.sds_pm hj)
    · split
      · exact Or.inl rfl
      · exact Or.inr rfl
theorem RB.sideOf {n k z : Nat} {S Sm : XS} (h : RB n k z S Sm) {j : Nat} (hj : j < k) : m_X6_sideOf [.inr 0, .inl (nI j)] Sm = ri Sm (sd n Sm j) := by
  have h80 := h.k80
  have h40 := h.n40
  obtain ⟨a1, a2, -⟩ := h.hi hj
  obtain ⟨b1, b2, -⟩ := h.hk hj
  have e6 : 6 * nI (mK Sm j) + 1 = nI (6 * mK Sm j + 1) := ix6' _ 1
  have eg : Sm 7 (6 * mK Sm j + 1) = mG Sm j 1 := rfl
  rw [u_X6_sideOf, nI_clamp (by omega), a2, b2, e6]
  simp only [gA_nI (show j < 80 by omega) (by decide), gA_nI (show mI Sm j < 40 by omega) (by decide), gA_nI (show 6 * mK Sm j + 1 < 60 by omega) (by decide), nI_clamp (show 6 * mK Sm j + 1 < 2 ^ 31 by omega), nI_clamp (show mI Sm j < 2 ^ 31 by omega), eg, u_X6_sideOf_54, q_both h.1.2.1 h40, cli_ri]
  have hw := wi_int.mp (h.gw hj (w := 1) (by decide))
  have c3 : (mostf 1).toInt = 3 := rfl
  have c0 : (0 : Int32).toInt = 0 := rfl
  have c1 : (1 : Int32).toInt = 1 := rfl
  by_cases g0 : mG Sm j 1 = 0
  · rw [if_pos (by rw [g0]; decide)]
    unfold sd sds sdv
    by_cases q : bothV n Sm
    · simp only [b01_t q, g0, if_pos q, ↓reduceIte, r10]
      split <;> rfl
    · simp only [b01_f q, g0, if_neg q, ↓reduceIte]
      split <;> split <;> rfl
  · by_cases g1 : mG Sm j 1 = 1
    · rw [if_pos (by rw [g1]; decide)]
      unfold sd sds sdv
      by_cases q : bothV n Sm
      · simp only [b01_t q, g1, if_pos q, ↓reduceIte, r10]
        split <;> rfl
      · simp only [b01_f q, g1, if_neg q, ↓reduceIte, r10]
        split <;> split <;> rfl
    · have g2 : ¬ mG Sm j 1 ≤ 1 := by
        rw [Int32.le_iff_toInt_le]
        intro q
        have d0 : (mG Sm j 1).toInt ≠ 0 := fun w => g0 (Int32.toInt_inj.mp w)
        have d1 : (mG Sm j 1).toInt ≠ 1 := fun w => g1 (Int32.toInt_inj.mp w)
        omega
      rw [if_neg g2]
      unfold sd
      rw [if_neg g0, if_neg g1]
      split <;> rfl
theorem RB.chooseSide {n k z : Nat} {S Sm : XS} (h : RB n k z S Sm) {j : Nat} (hj : j < k) : m_X5_chooseSide [.inr 0, .inl (nI j), .inl (b01 (bothV n Sm))] S = ri S (sd n Sm j) := by
  have h80 := h.k80
  have h40 := h.n40
  obtain ⟨a1, -, a2⟩ := h.hi hj
  obtain ⟨b1, -, b2⟩ := h.hk hj
  have eg : m_X1_get [.inr 2, .inl (nI (mK Sm j)), .inl 1] S = ri S (mG Sm j 1) := h.get hj (w := 1) (by decide)
  have ev : S 10 (mI Sm j) = Sm 4 (mI Sm j) := (h.1.2.2.2 _ a1).1.2.2.2.1
  have es : S 11 (mI Sm j) = Sm 5 (mI Sm j) := (h.1.2.2.2 _ a1).1.2.2.2.2.1
  rw [u_X5_chooseSide, nI_clamp (by omega), a2]
  simp only [gA_nI (show j < 80 by omega) (by decide), gA_nI (show mI Sm j < 40 by omega) (by decide), nI_clamp (show mI Sm j < 2 ^ 31 by omega), nI_clamp (show j < 2 ^ 31 by omega), u_X5_chooseSide_27, b2, eg, cli_ri, ev, es]
  have c0 : (0 : Int32).toInt = 0 := rfl
  have c1 : (1 : Int32).toInt = 1 := rfl
  have c2 : (2 : Int32).toInt = 2 := rfl
  have f0 : ((mG Sm j 1).toInt = 0) ↔ (mG Sm j 1 = 0) := ⟨fun w => Int32.toInt_inj.mp w, fun w => by rw [w]; rfl⟩
  have f1 : ((mG Sm j 1).toInt = 1) ↔ (mG Sm j 1 = 1) := ⟨fun w => Int32.toInt_inj.mp w, fun w => by rw [w]; rfl⟩
  have f2 : ((mG Sm j 1).toInt = 2) ↔ (mG Sm j 1 = 2) := ⟨fun w => Int32.toInt_inj.mp w, fun w => by rw [w]; rfl⟩
  simp only [f0, f1, f2]
  unfold sd sds sdv
  by_cases q : bothV n Sm
  · simp only [b01_t q, if_pos q, ↓reduceIte, r10]
    by_cases g0 : mG Sm j 1 = 0
    · simp only [if_pos g0]
      split <;> rfl
    · simp only [if_neg g0]
      by_cases g1 : mG Sm j 1 = 1
      · simp only [if_pos g1]
        split <;> rfl
      · simp only [if_neg g1]
        split <;> split <;> rfl
  · simp only [b01_f q, if_neg q, ↓reduceIte]
    by_cases g0 : mG Sm j 1 = 0
    · simp only [if_pos g0]
      split <;> split <;> rfl
    · simp only [if_neg g0]
      by_cases g1 : mG Sm j 1 = 1
      · simp only [if_pos g1]
        split <;> split <;> rfl
      · simp only [if_neg g1]
        split <;> split <;> split <;> rfl
