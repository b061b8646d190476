/-! PURE PART: what the two pictures have in common between calls. -/
/-- items: n of them -/
def RIj (j : Nat) (S Sm : XS) : Prop := (S 7 j = Sm 1 j ∧ S 8 j = Sm 2 j ∧ S 9 j = Sm 3 j ∧ S 10 j = Sm 4 j ∧ S 11 j = Sm 5 j ∧ S 12 j = Sm 6 j) ∧ (wi (Sm 1 j) 0 100000 ∧ wi (Sm 2 j) (-60) 60 ∧ wi (Sm 3 j) (Sm 2 j) 60) ∧ (Sm 4 j = 0 ∨ Sm 4 j = 1) ∧ (Sm 5 j = -1 ∨ Sm 5 j = 0 ∨ Sm 5 j = 1) ∧ ((Sm 6 j = 0) ∨ (Sm 6 j = 1 ∧ Sm 5 j = 0))
def RI (n : Nat) (S Sm : XS) : Prop := S 1 6 = nI n ∧ Sm 0 1 = nI n ∧ n ≤ 40 ∧ ∀ j, j < n → RIj j S Sm
/-- the most of a setting -/
def mst (w : Nat) : Int32 := mostf w
def RK (S Sm : XS) : Prop := ∀ kd w, kd < 10 → w < 6 → S 13 (6 * kd + w) = Sm 7 (6 * kd + w) ∧ wi (Sm 7 (6 * kd + w)) 0 (mst w)
/-- marks: k of them -/
def RMj (n j : Nat) (S Sm : XS) : Prop := (S 14 j = Sm 8 j ∧ S 15 j = Sm 9 j ∧ S 16 j = Sm 10 j ∧ S 17 j = Sm 11 j ∧ S 18 j = Sm 12 j) ∧ (∃ i, i < n ∧ Sm 8 j = nI i) ∧ (∃ kd, kd < 10 ∧ Sm 9 j = nI kd) ∧ wi (Sm 10 j) 1 400 ∧ wi (Sm 11 j) 1 40 ∧ (Sm 12 j = 0 ∨ Sm 12 j = 1)
def RM (n k : Nat) (S Sm : XS) : Prop := S 3 11 = nI k ∧ Sm 0 9 = nI k ∧ (k ≤ 80 ∧ ∀ j, S 18 j = Sm 12 j ∧ (Sm 12 j = 0 ∨ Sm 12 j = 1)) ∧ ∀ j, j < k → RMj n j S Sm
/-- slurs: z of them -/
def RZj (n j : Nat) (S Sm : XS) : Prop := (S 25 j = Sm 17 j ∧ S 26 j = Sm 18 j ∧ S 27 j = Sm 19 j ∧ S 28 j = Sm 20 j) ∧ (∃ i, i < n ∧ Sm 17 j = nI i) ∧ (∃ i, i < n ∧ Sm 18 j = nI i) ∧ (Sm 19 j = 1 ∨ Sm 19 j = -1) ∧ wi (Sm 20 j) 1 20
def RZ (n z : Nat) (S Sm : XS) : Prop := S 4 6 = nI z ∧ Sm 0 20 = nI z ∧ z ≤ 10 ∧ ∀ j, j < z → RZj n j S Sm
def RB (n k z : Nat) (S Sm : XS) : Prop := RI n S Sm ∧ RK S Sm ∧ RM n k S Sm ∧ RZ n z S Sm
/-- the relation, over what holds where all is placed -/
def RelP (PL : Nat → Nat → Nat → XS → XS → Prop) (S Sm : XS) : Prop := ∃ n k z, RB n k z S Sm ∧ S 0 9 = Sm 0 29 ∧ (S 0 9 = 0 ∨ (S 0 9 = 1 ∧ PL n k z S Sm))
/-- what isn't read by it may change -/
def PLok (PL : Nat → Nat → Nat → XS → XS → Prop) : Prop := ∀ n k z S Sm c, PL n k z S Sm → PL n k z S (up2 Sm 0 0 c)
/-- two pictures agree on the base cells of the reference -/
def bsM (Sm Sm' : XS) : Prop := Sm' 0 1 = Sm 0 1 ∧ Sm' 0 9 = Sm 0 9 ∧ Sm' 0 20 = Sm 0 20 ∧ Sm' 1 = Sm 1 ∧ Sm' 2 = Sm 2 ∧ Sm' 3 = Sm 3 ∧ Sm' 4 = Sm 4 ∧ Sm' 5 = Sm 5 ∧ Sm' 6 = Sm 6 ∧ Sm' 7 = Sm 7 ∧ Sm' 8 = Sm 8 ∧ Sm' 9 = Sm 9 ∧ Sm' 10 = Sm 10 ∧ Sm' 11 = Sm 11 ∧ Sm' 12 = Sm 12 ∧ Sm' 17 = Sm 17 ∧ Sm' 18 = Sm 18 ∧ Sm' 19 = Sm 19 ∧ Sm' 20 = Sm 20
def bsX (S S' : XS) : Prop := S' 1 6 = S 1 6 ∧ S' 3 11 = S 3 11 ∧ S' 4 6 = S 4 6 ∧ S' 7 = S 7 ∧ S' 8 = S 8 ∧ S' 9 = S 9 ∧ S' 10 = S 10 ∧ S' 11 = S 11 ∧ S' 12 = S 12 ∧ S' 13 = S 13 ∧ S' 14 = S 14 ∧ S' 15 = S 15 ∧ S' 16 = S 16 ∧ S' 17 = S 17 ∧ S' 18 = S 18 ∧ S' 25 = S 25 ∧ S' 26 = S 26 ∧ S' 27 = S 27 ∧ S' 28 = S 28
theorem RB.of {n k z : Nat} {S Sm S' Sm' : XS} (h : RB n k z S Sm) (hx : bsX S S') (hm : bsM Sm Sm') : RB n k z S' Sm' := by
  obtain ⟨x1, x2, x3, x4, x5, x6, x7, x8, x9, x10, x11, x12, x13, x14, x15, x16, x17, x18, x19⟩ := hx
  obtain ⟨m1, m2, m3, m4, m5, m6, m7, m8, m9, m10, m11, m12, m13, m14, m15, m16, m17, m18, m19⟩ := hm
  unfold RB RI RK RM RZ RIj RMj RZj at *
  rw [x1, x2, x3, x4, x5, x6, x7, x8, x9, x10, x11, x12, x13, x14, x15, x16, x17, x18, x19, m1, m2, m3, m4, m5, m6, m7, m8, m9, m10, m11, m12, m13, m14, m15, m16, m17, m18, m19]
  exact h
theorem bsX.rf {S : XS} : bsX S S := ⟨rfl, rfl, rfl, rfl, rfl, rfl, rfl, rfl, rfl, rfl, rfl, rfl, rfl, rfl, rfl, rfl, rfl, rfl, rfl⟩
theorem bsM.rf {S : XS} : bsM S S := ⟨rfl, rfl, rfl, rfl, rfl, rfl, rfl, rfl, rfl, rfl, rfl, rfl, rfl, rfl, rfl, rfl, rfl, rfl, rfl⟩
theorem bsM.code {S : XS} {c : Int32} : bsM S (up2 S 0 0 c) := ⟨rfl, rfl, rfl, rfl, rfl, rfl, rfl, rfl, rfl, rfl, rfl, rfl, rfl, rfl, rfl, rfl, rfl, rfl, rfl⟩
theorem RelP.code {PL : Nat → Nat → Nat → XS → XS → Prop} (hPL : PLok PL) {S Sm : XS} {c : Int32} (h : RelP PL S Sm) : RelP PL S (up2 Sm 0 0 c) := by
  obtain ⟨n, k, z, hb, h1, h2⟩ := h
  exact ⟨n, k, z, hb.of bsX.rf bsM.code, h1, h2.imp id (fun q => ⟨q.1, hPL _ _ _ _ _ _ q.2⟩)⟩
/-- an item more -/
theorem p_add0 {S : XS} {n : Nat} (hn : S 1 6 = nI n) (h : n < 40) (a1 a2 a3 a4 a5 a6 : Int32) : m_X0_add [.inr 1, .inl a1, .inl a2, .inl a3, .inl a4, .inl a5, .inl a6] S = ri (up2 (up2 (up2 (up2 (up2 (up2 (up2 S 7 n a1) 8 n a2) 9 n a3) 10 n a4) 11 n a5) 12 n a6) 1 6 (nI (n + 1))) (nI n) := by
  rw [u_X0_add, hn]
  rw [gA_nI h (by decide), gA_nI h (by decide), gA_nI h (by decide), gA_nI h (by decide), gA_nI h (by decide), gA_nI h (by decide), nI_clamp (by omega)]
  simp only [up2_o _ _ (show (1 : Nat) ≠ 7 by decide), up2_o _ _ (show (1 : Nat) ≠ 8 by decide), up2_o _ _ (show (1 : Nat) ≠ 9 by decide), up2_o _ _ (show (1 : Nat) ≠ 10 by decide), up2_o _ _ (show (1 : Nat) ≠ 11 by decide), up2_o _ _ (show (1 : Nat) ≠ 12 by decide), hn, nI_1]
theorem q_come {S : XS} {n : Nat} (hn : S 0 1 = nI n) (h : n < 40) (a1 a2 a3 a4 a5 a6 : Int32) (ha : a6 = 0 ∨ a6 = 1) : m_X6_come [.inr 0, .inl a1, .inl a2, .inl a3, .inl a4, .inl a5, .inl a6] S = ri (up2 (up2 (up2 (up2 (up2 (up2 (up2 (up2 S 1 n a1) 2 n a2) 3 n a3) 4 n a4) 5 n a5) 6 n a6) 0 1 (nI (n + 1))) 0 29 0) (nI n) := by
  have e6 : vp_nar .boolean a6 = a6 := by rcases ha with e | e <;> subst e <;> decide
  rw [u_X6_come, hn]
  have hne : ¬ nI n = 40 := by
    rw [show (40 : Int32) = nI 40 from rfl, nI_eq (by omega) (by decide)]
    omega
  rw [if_neg hne]
  simp only [up2_o _ _ (show (0 : Nat) ≠ 1 by decide), up2_o _ _ (show (0 : Nat) ≠ 2 by decide), up2_o _ _ (show (0 : Nat) ≠ 3 by decide), up2_o _ _ (show (0 : Nat) ≠ 4 by decide), up2_o _ _ (show (0 : Nat) ≠ 5 by decide), up2_o _ _ (show (0 : Nat) ≠ 6 by decide), hn, gA_nI h (show 40 < 2 ^ 31 by decide), nI_clamp (show n < 2 ^ 31 by omega), nI_1, e6]
  simp only [up2_n _ (show (1 : Nat) ≠ 29 by decide), up2_s, show nI (n + 1) - 1 = nI n from nI_pred n]
