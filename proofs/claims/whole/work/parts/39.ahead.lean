/-! PURE PART: which mark comes first. -/
def rk (S : XS) (j : Nat) : Int := ((mG S j 5).toInt * 10 + (mG S j 0).toInt) * 100001 + (mX S j).toInt
def ahd (S : XS) (m o : Nat) : Prop := rk S m < rk S o ∨ (rk S m = rk S o ∧ m < o)
theorem ahd_irr {S : XS} {m : Nat} : ¬ ahd S m m := by unfold ahd; omega
theorem ahd_tr {S : XS} {a b c : Nat} (h1 : ahd S a b) (h2 : ahd S b c) : ahd S a c := by unfold ahd at *; omega
theorem ahd_tot {S : XS} {a b : Nat} (h : ¬ ahd S a b) (hn : a ≠ b) : ahd S b a := by unfold ahd at *; omega
theorem ahd_as {S : XS} {a b : Nat} (h : ahd S a b) : ¬ ahd S b a := by unfold ahd at *; omega
theorem RB.bnd {n k z : Nat} {S Sm : XS} (h : RB n k z S Sm) {j : Nat} (hj : j < k) : (0 ≤ (mG Sm j 5).toInt ∧ (mG Sm j 5).toInt ≤ 1) ∧ (0 ≤ (mG Sm j 0).toInt ∧ (mG Sm j 0).toInt ≤ 9) ∧ (0 ≤ (mX Sm j).toInt ∧ (mX Sm j).toInt ≤ 100000) := by
  have w1 := wi_int.mp (h.gw hj (w := 5) (by decide))
  have w2 := wi_int.mp (h.gw hj (w := 0) (by decide))
  have w3 := wi_int.mp (h.1.2.2.2 _ (h.hi hj).1).2.1.1
  have c1 : (mostf 5).toInt = 1 := rfl
  have c2 : (mostf 0).toInt = 9 := rfl
  have c3 : (0 : Int32).toInt = 0 := rfl
  have c4 : (100000 : Int32).toInt = 100000 := rfl
  unfold mX
  omega
theorem mul_toInt {a b : Int32} (h1 : -2147483648 ≤ a.toInt * b.toInt) (h2 : a.toInt * b.toInt < 2147483648) : (a * b).toInt = a.toInt * b.toInt := by
  rw [Int32.toInt_mul]
  exact Int.bmod_eq_of_le (by omega) (by omega)
theorem RB.rank {n k z : Nat} {S Sm : XS} (h : RB n k z S Sm) {j : Nat} (hj : j < k) : ∃ r, m_X5_rank [.inr 0, .inl (nI j)] S = ri S r ∧ r.toInt = rk Sm j := by
  have h80 := h.k80
  have h40 := h.n40
  obtain ⟨a1, -, a2⟩ := h.hi hj
  obtain ⟨b1, -, b2⟩ := h.hk hj
  have eg5 : m_X1_get [.inr 2, .inl (nI (mK Sm j)), .inl 5] S = ri S (mG Sm j 5) := h.get hj (w := 5) (by decide)
  have eg0 : m_X1_get [.inr 2, .inl (nI (mK Sm j)), .inl 0] S = ri S (mG Sm j 0) := h.get hj (w := 0) (by decide)
  have hg0 : ∀ q, gA 0 6 q = q := fun q => gA_nI (i := 0) (by decide) (by decide) q
  obtain ⟨w1, w2, w3⟩ := h.bnd hj
  refine ⟨(mG Sm j 5 * 10 + mG Sm j 0) * 100001 + mX Sm j, ?_, ?_⟩
  · rw [u_X5_rank, nI_clamp (by omega), b2]
    simp only [gA_nI (show j < 80 by omega) (by decide), u_X1_rank, eg5, eg0, hg0, cli_ri, a2, gA_nI (show mI Sm j < 40 by omega) (by decide), nI_clamp (show mI Sm j < 2 ^ 31 by omega), h.x a1]
    rfl
  · have c10 : (10 : Int32).toInt = 10 := rfl
    have cm : (100001 : Int32).toInt = 100001 := rfl
    have t1 : (mG Sm j 5 * 10).toInt = (mG Sm j 5).toInt * 10 := by rw [mul_toInt (by rw [c10]; omega) (by rw [c10]; omega), c10]
    have t2 : (mG Sm j 5 * 10 + mG Sm j 0).toInt = (mG Sm j 5).toInt * 10 + (mG Sm j 0).toInt := by rw [add_toInt (by omega) (by omega), t1]
    have t3 : ((mG Sm j 5 * 10 + mG Sm j 0) * 100001).toInt = ((mG Sm j 5).toInt * 10 + (mG Sm j 0).toInt) * 100001 := by rw [mul_toInt (by rw [cm, t2]; omega) (by rw [cm, t2]; omega), t2, cm]
    rw [add_toInt (by omega) (by omega), t3]
    rfl
theorem i32_eq {a b : Int32} : a = b ↔ a.toInt = b.toInt := Int32.toInt_inj.symm
theorem RB.isAhead {n k z : Nat} {S Sm : XS} (h : RB n k z S Sm) {m o : Nat} (hm : m < k) (ho : o < k) : m_X6_isAhead [.inr 0, .inl (nI m), .inl (nI o)] Sm = ri Sm (b01 (ahd Sm m o)) := by
  have h80 := h.k80
  have h40 := h.n40
  obtain ⟨a1, a2, -⟩ := h.hi hm
  obtain ⟨b1, b2, -⟩ := h.hk hm
  obtain ⟨a1', a2', -⟩ := h.hi ho
  obtain ⟨b1', b2', -⟩ := h.hk ho
  have e5 : nI (6 * mK Sm m) + 5 = nI (6 * mK Sm m + 5) := nI_add _ 5
  have e0 : 6 * nI (mK Sm m) = nI (6 * mK Sm m) := by rw [show (6 : Int32) = nI 6 from rfl, pk_mul]
  have e5' : nI (6 * mK Sm o) + 5 = nI (6 * mK Sm o + 5) := nI_add _ 5
  have e0' : 6 * nI (mK Sm o) = nI (6 * mK Sm o) := by rw [show (6 : Int32) = nI 6 from rfl, pk_mul]
  have g5 : Sm 7 (6 * mK Sm m + 5) = mG Sm m 5 := rfl
  have g0 : Sm 7 (6 * mK Sm m) = mG Sm m 0 := rfl
  have g5' : Sm 7 (6 * mK Sm o + 5) = mG Sm o 5 := rfl
  have g0' : Sm 7 (6 * mK Sm o) = mG Sm o 0 := rfl
  have gx : Sm 1 (mI Sm m) = mX Sm m := rfl
  have gx' : Sm 1 (mI Sm o) = mX Sm o := rfl
  rw [u_X6_isAhead]
  simp only [nI_clamp (show m < 2 ^ 31 by omega), nI_clamp (show o < 2 ^ 31 by omega), a2, b2, a2', b2', e5, e5', gA_nI (show m < 80 by omega) (by decide), gA_nI (show o < 80 by omega) (by decide), gA_nI (show 6 * mK Sm m + 5 < 60 by omega) (by decide), gA_nI (show 6 * mK Sm o + 5 < 60 by omega) (by decide), nI_clamp (show 6 * mK Sm m + 5 < 2 ^ 31 by omega), nI_clamp (show 6 * mK Sm o + 5 < 2 ^ 31 by omega), e0, e0', gA_nI (show 6 * mK Sm m < 60 by omega) (by decide), gA_nI (show 6 * mK Sm o < 60 by omega) (by decide), nI_clamp (show 6 * mK Sm m < 2 ^ 31 by omega), nI_clamp (show 6 * mK Sm o < 2 ^ 31 by omega), gA_nI (show mI Sm m < 40 by omega) (by decide), gA_nI (show mI Sm o < 40 by omega) (by decide), nI_clamp (show mI Sm m < 2 ^ 31 by omega), nI_clamp (show mI Sm o < 2 ^ 31 by omega), g5, g0, g5', g0', gx, gx', nI_leI (show o < 2 ^ 31 by omega) (show m < 2 ^ 31 by omega)]
  obtain ⟨w1, w2, w3⟩ := h.bnd hm
  obtain ⟨v1, v2, v3⟩ := h.bnd ho
  have key : ahd Sm m o ↔ ((mG Sm m 5).toInt < (mG Sm o 5).toInt ∨ ((mG Sm m 5).toInt = (mG Sm o 5).toInt ∧ ((mG Sm m 0).toInt < (mG Sm o 0).toInt ∨ ((mG Sm m 0).toInt = (mG Sm o 0).toInt ∧ ((mX Sm m).toInt < (mX Sm o).toInt ∨ ((mX Sm m).toInt = (mX Sm o).toInt ∧ m < o)))))) := by
    unfold ahd rk
    omega
  simp only [i32_eq, Int32.le_iff_toInt_le]
  by_cases c1 : (mG Sm m 5).toInt = (mG Sm o 5).toInt
  · rw [if_pos c1]
    by_cases c2 : (mG Sm m 0).toInt = (mG Sm o 0).toInt
    · rw [if_pos c2]
      by_cases c3 : (mX Sm m).toInt = (mX Sm o).toInt
      · rw [if_pos c3]
        by_cases c4 : o ≤ m
        · rw [if_pos c4, b01_f (by rw [key]; omega)]
        · rw [if_neg c4, b01_t (by rw [key]; omega)]
      · rw [if_neg c3]
        by_cases c4 : (mX Sm o).toInt ≤ (mX Sm m).toInt
        · rw [if_pos c4, b01_f (by rw [key]; omega)]
        · rw [if_neg c4, b01_t (by rw [key]; omega)]
    · rw [if_neg c2]
      by_cases c4 : (mG Sm o 0).toInt ≤ (mG Sm m 0).toInt
      · rw [if_pos c4, b01_f (by rw [key]; omega)]
      · rw [if_neg c4, b01_t (by rw [key]; omega)]
  · rw [if_neg c1]
    by_cases c4 : (mG Sm o 5).toInt ≤ (mG Sm m 5).toInt
    · rw [if_pos c4, b01_f (by rw [key]; omega)]
    · rw [if_neg c4, b01_t (by rw [key]; omega)]
/-- covers a common x -/
def shr (S : XS) (a b : Nat) : Prop := lf S a < lf S b + S 10 b ∧ lf S b < lf S a + S 10 a
theorem RB.cover {n k z : Nat} {S Sm : XS} (h : RB n k z S Sm) {a b : Nat} (ha : a < k) (hb : b < k) : m_X6_cover [.inr 0, .inl (nI a), .inl (nI b)] Sm = ri Sm (b01 (shr Sm a b)) := by
  have h80 := h.k80
  rw [u_X6_cover]
  simp only [h.left ha, h.left hb, cli_ri, nI_clamp (show a < 2 ^ 31 by omega), nI_clamp (show b < 2 ^ 31 by omega), gA_nI (show a < 80 by omega) (by decide), gA_nI (show b < 80 by omega) (by decide)]
  split
  · rename_i q
    rw [b01_f (fun w => by have := w.1; rw [← Int32.not_le] at this; exact this q)]
  · rename_i q
    split
    · rename_i q2
      rw [b01_f (fun w => by have := w.2; rw [← Int32.not_le] at this; exact this q2)]
    · rename_i q2
      rw [b01_t (show shr Sm a b from ⟨by rw [← Int32.not_le]; exact q, by rw [← Int32.not_le]; exact q2⟩)]
