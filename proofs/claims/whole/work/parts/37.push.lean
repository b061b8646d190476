/-! PURE PART: push. -/
/-- those of cell c that lie behind x, up to the i-th, move by v -/
def mvS (S : XS) (c : Nat) (x v : Int32) (i : Nat) : XS := fun a b => if a = c ∧ b < i ∧ ¬ S c b ≤ x then S c b + v else S a b
theorem mvS_0 {S : XS} {c : Nat} {x v : Int32} : mvS S c x v 0 = S := by
  funext a b
  unfold mvS
  rw [if_neg (by omega)]
theorem mvS_here {S : XS} {c : Nat} {x v : Int32} {i : Nat} : mvS S c x v i c i = S c i := by
  unfold mvS
  rw [if_neg (by omega)]
theorem mvS_o {S : XS} {c : Nat} {x v : Int32} {i a : Nat} (h : a ≠ c) : mvS S c x v i a = S a := by
  funext b
  unfold mvS
  rw [if_neg (by omega)]
theorem mvS_up {S : XS} {c : Nat} {x v : Int32} {i : Nat} (h : ¬ S c i ≤ x) : up2 (mvS S c x v i) c i (S c i + v) = mvS S c x v (i + 1) := by
  funext a b
  rw [up2_at]
  unfold mvS
  by_cases ha : a = c
  · subst ha
    by_cases hb : b = i
    · subst hb
      simp [h]
    · by_cases h2 : S a b ≤ x
      · simp [hb, h2]
      · simp [hb, h2]
        by_cases h3 : b < i
        · simp [h3, show b < i + 1 by omega]
        · simp [h3, show ¬ b < i + 1 by omega]
  · simp [ha]
theorem mvS_no {S : XS} {c : Nat} {x v : Int32} {i : Nat} (h : S c i ≤ x) : mvS S c x v i = mvS S c x v (i + 1) := by
  funext a b
  unfold mvS
  by_cases ha : a = c
  · subst ha
    by_cases hb : b = i
    · subst hb
      simp [h]
    · by_cases h2 : S a b ≤ x
      · simp [h2]
      · simp [h2]
        by_cases h3 : b < i
        · simp [h3, show b < i + 1 by omega]
        · simp [h3, show ¬ b < i + 1 by omega]
  · simp [ha]
theorem up2_same {S : XS} {c i : Nat} {v : Int32} (h : S c i = v) : up2 S c i v = S := by
  funext a b
  rw [up2_at]
  by_cases ha : a = c
  · subst ha
    by_cases hb : b = i
    · subst hb
      simp [h]
    · simp [hb]
  · simp [ha]
theorem p_move {S : XS} {n : Nat} (hn : S 1 6 = nI n) (h40 : n ≤ 40) (x v : Int32) : m_X0_moveBehind [.inr 1, .inl x, .inl v] S = rv (mvS S 7 x v n) := by
  rw [u_X0_moveBehind]
  refine lp0 (b := fun fl i (s : XS) => b_X0_moveBehind_2 fl [(0, .inr 1), (1, .inl x), (2, .inl v), (3, .inl (nI i))] [] s) (N := n) (by omega) (fun i s => s = mvS S 7 x v i) (fun r => r = rv (mvS S 7 x v n)) mvS_0.symm ?_ ?_
  · rintro fl i s hi rfl
    left
    have hn' : mvS S 7 x v i 1 6 = nI n := by rw [mvS_o (by decide)]; exact hn
    simp only [u_X0_moveBehind_2, hn', if_neg (nI_ge hi (by omega)), gA_nI (show i < 40 by omega) (by decide), nI_clamp (show i < 2 ^ 31 by omega), nI_1, mvS_here]
    by_cases h1 : S 7 i ≤ x
    · exact ⟨_, rfl, by rw [if_pos h1, mvS_no h1]⟩
    · exact ⟨_, rfl, by rw [if_neg h1, mvS_up h1]⟩
  · rintro fl s rfl
    have hn' : mvS S 7 x v n 1 6 = nI n := by rw [mvS_o (by decide)]; exact hn
    simp only [u_X0_moveBehind_2, hn', if_pos (nI_le (Nat.le_refl n) (by omega))]
theorem q_move {S : XS} {n : Nat} (hn : S 0 1 = nI n) (h40 : n ≤ 40) (x v : Int32) : b_X6_push_89 fu [(0, .inr 0), (2, .inl v), (3, .inl x), (4, .inl 0)] [] S = ri (up2 (mvS S 1 x v n) 0 29 0) v := by
  refine lp0 (b := fun fl i (s : XS) => b_X6_push_89 fl [(0, .inr 0), (2, .inl v), (3, .inl x), (4, .inl (nI i))] [] s) (N := n) (by omega) (fun i s => s = mvS S 1 x v i) (fun r => r = ri (up2 (mvS S 1 x v n) 0 29 0) v) mvS_0.symm ?_ ?_
  · rintro fl i s hi rfl
    left
    have hn' : mvS S 1 x v i 0 1 = nI n := by rw [mvS_o (by decide)]; exact hn
    simp only [u_X6_push_89, hn', if_neg (nI_ge hi (by omega)), gA_nI (show i < 40 by omega) (by decide), nI_clamp (show i < 2 ^ 31 by omega), nI_1, mvS_here]
    by_cases h1 : S 1 i ≤ x
    · exact ⟨_, rfl, by rw [if_pos h1, Int32.add_zero, up2_same mvS_here, mvS_no h1]⟩
    · exact ⟨_, rfl, by rw [if_neg h1, mvS_up h1]⟩
  · rintro fl s rfl
    have hn' : mvS S 1 x v n 0 1 = nI n := by rw [mvS_o (by decide)]; exact hn
    simp only [u_X6_push_89, hn', if_pos (nI_le (Nat.le_refl n) (by omega))]
theorem p_greatX {S : XS} {n : Nat} (hn : S 1 6 = nI n) (h40 : n ≤ 40) : ∃ g, m_X0_greatestX [.inr 1] S = ri S g ∧ (∀ j, j < n → S 7 j ≤ g) ∧ (g = 0 ∨ ∃ j, j < n ∧ S 7 j = g) := by
  rw [u_X0_greatestX]
  refine lp0 (b := fun fl i (g : Int32) => b_X0_greatestX_4 fl [(0, .inr 1), (1, .inl g), (2, .inl (nI i))] [] S) (N := n) (by omega) (fun i g => (∀ j, j < i → S 7 j ≤ g) ∧ (g = 0 ∨ ∃ j, j < i ∧ S 7 j = g)) (fun r => ∃ g, r = ri S g ∧ (∀ j, j < n → S 7 j ≤ g) ∧ (g = 0 ∨ ∃ j, j < n ∧ S 7 j = g)) ⟨fun j hj => by omega, Or.inl rfl⟩ ?_ ?_
  · rintro fl i g hi ⟨h1, h2⟩
    left
    simp only [u_X0_greatestX_4, hn, if_neg (nI_ge hi (by omega)), gA_nI (show i < 40 by omega) (by decide), nI_clamp (show i < 2 ^ 31 by omega), nI_1]
    refine ⟨_, ⟨?_, ?_⟩, rfl⟩
    · intro j hj
      split
      · rename_i q
        by_cases e : j = i
        · subst e
          exact Int32.le_refl _
        · have := h1 j (by omega)
          rw [Int32.le_iff_toInt_le] at *
          rw [Int32.lt_iff_toInt_lt] at q
          omega
      · rename_i q
        by_cases e : j = i
        · subst e
          rw [Int32.not_lt] at q
          exact q
        · exact h1 j (by omega)
    · split
      · exact Or.inr ⟨i, by omega, rfl⟩
      · rcases h2 with e | ⟨j, q1, q2⟩
        · exact Or.inl e
        · exact Or.inr ⟨j, by omega, q2⟩
  · rintro fl g h
    exact ⟨g, by simp only [u_X0_greatestX_4, hn, if_pos (nI_le (Nat.le_refl n) (by omega))], h⟩
/-- none that lies behind x comes beyond 100000 by v -/
def fitsP (S : XS) (n : Nat) (x v : Int32) : Prop := ∀ j, j < n → ¬ S 1 j ≤ x → S 1 j + v ≤ 100000
theorem q_fits {S : XS} {n : Nat} (hn : S 0 1 = nI n) (h40 : n ≤ 40) (x v : Int32) : b_X6_push_43 fu [(0, .inr 0), (2, .inl v), (3, .inl x), (4, .inl 0)] [] S = cif (fitsP S n x v) (ri (up2 (mvS S 1 x v n) 0 29 0) v) (ri S (-100002)) := by
  refine lp0 (b := fun fl i (_ : Unit) => b_X6_push_43 fl [(0, .inr 0), (2, .inl v), (3, .inl x), (4, .inl (nI i))] [] S) (N := n) (by omega) (fun i _ => ∀ j, j < i → ¬ S 1 j ≤ x → S 1 j + v ≤ 100000) (fun r => r = cif (fitsP S n x v) (ri (up2 (mvS S 1 x v n) 0 29 0) v) (ri S (-100002))) (s := ()) (fun j hj => by omega) ?_ ?_
  · rintro fl i - hi h
    simp only [u_X6_push_43, hn, if_neg (nI_ge hi (by omega)), gA_nI (show i < 40 by omega) (by decide), nI_clamp (show i < 2 ^ 31 by omega), nI_1]
    by_cases h1 : S 1 i ≤ x
    · refine Or.inl ⟨(), fun j hj w => ?_, by rw [if_pos h1]⟩
      by_cases e : j = i
      · subst e
        exact absurd h1 w
      · exact h j (by omega) w
    · rw [if_neg h1]
      by_cases h2 : S 1 i + v ≤ 100000
      · refine Or.inl ⟨(), fun j hj w => ?_, by rw [if_pos h2]⟩
        by_cases e : j = i
        · subst e
          exact h2
        · exact h j (by omega) w
      · right
        rw [if_neg h2, cif_f (fun w => h2 (w i hi h1))]
  · rintro fl - h
    simp only [u_X6_push_43, hn, if_pos (nI_le (Nat.le_refl n) (by omega))]
    rw [cif_t (show fitsP S n x v from h), q_move hn h40]
/-- what lacks is small -/
theorem RB.lack_b {n k z : Nat} {S Sm : XS} (h : RB n k z S Sm) {j : Nat} (hj : j < k) (h0 : ¬ lack Sm n j = 0) : 0 < (lack Sm n j).toInt ∧ (lack Sm n j).toInt ≤ 404 ∧ ∃ m, m < n ∧ ¬ Sm 1 m ≤ mX Sm j := by
  unfold lack at *
  by_cases q : mG Sm j 2 = 1
  · simp only [if_pos q] at *
    cases e : nx (Sm 1) (mX Sm j) n with
    | none => simp only [e] at h0; exact absurd trivial h0
    | some m =>
      obtain ⟨hm, hx⟩ := nx_lt n m e
      simp only [e] at h0 ⊢
      by_cases w : 0 < mX Sm j + Sm 10 j + 4 - Sm 1 m
      · simp only [if_pos w]
        rw [Int32.lt_iff_toInt_lt, Int32.toInt_zero] at w
        refine ⟨w, ?_, m, hm, hx⟩
        rw [Int32.le_iff_toInt_le] at hx
        have x1 := wi_int.mp (h.1.2.2.2 m hm).2.1.1
        have x2 := wi_int.mp (h.1.2.2.2 _ (h.hi hj).1).2.1.1
        have x3 := wi_int.mp (h.m hj).2.2.2.1
        have c1 : (100000 : Int32).toInt = 100000 := rfl
        have c2 : (0 : Int32).toInt = 0 := rfl
        have c3 : (1 : Int32).toInt = 1 := rfl
        have c4 : (400 : Int32).toInt = 400 := rfl
        have c5 : (4 : Int32).toInt = 4 := rfl
        unfold mX at *
        have t1 : (Sm 1 (mI Sm j) + Sm 10 j).toInt = (Sm 1 (mI Sm j)).toInt + (Sm 10 j).toInt := add_toInt (by omega) (by omega)
        have t2 : (Sm 1 (mI Sm j) + Sm 10 j + 4).toInt = (Sm 1 (mI Sm j)).toInt + (Sm 10 j).toInt + 4 := by rw [add_toInt (by omega) (by omega), t1, c5]
        rw [sub_toInt (by omega) (by omega), t2]
        omega
      · simp only [if_neg w] at h0
        exact absurd trivial h0
  · simp only [if_neg q] at h0
    exact absurd trivial h0
theorem s_push {PL : Nat → Nat → Nat → XS → XS → Prop} (hPL : PLok PL) {S Sm : XS} (hr : RelP PL S Sm) (a1 : Int32) : PD (RelP PL) m_X5_push m_X6_push S Sm [.inl a1] := by
  obtain ⟨n, k, z, hb, hp⟩ := id hr
  have hb' : RB n k z S (up2 Sm 0 0 0) := hb.of bsX.rf bsM.code
  have hg2 : ∀ j, j < k → S 18 j = Sm 12 j := fun j hj => (hb.2.2.1.2.2.1.2 j).1
  by_cases h1 : okM Sm k a1
  case neg =>
    refine PD.same hPL hr (r := -100001) ?_ ?_
    · simp only [u_X5_push, p_has2 hb.2.2.1.1 hb.k80 hg2, b01_f h1, cli_ri, ↓reduceIte]
    · simp only [u_X6_push, q_mark hb'.2.2.1.2.1 hb.k80, b01_f (show ¬ okM (up2 Sm 0 0 0) k a1 from h1), cli_ri, ↓reduceIte]
  obtain ⟨j, hj, rfl, hj0⟩ := id h1
  have h1' : okM (up2 Sm 0 0 0) k (nI j) := h1
  have el : lack (up2 Sm 0 0 0) n j = lack Sm n j := rfl
  have k80 := hb.k80
  have n40 := hb.n40
  by_cases h2 : lack Sm n j = 0
  · refine PD.same hPL hr (r := 0) ?_ ?_
    · simp only [u_X5_push, p_has2 hb.2.2.1.1 hb.k80 hg2, b01_t h1, cli_ri, ↓reduceIte, r10, hb.lackOf hj, h2]
    · simp only [u_X6_push, q_mark hb'.2.2.1.2.1 hb.k80, b01_t h1', cli_ri, ↓reduceIte, r10, hb'.lacks hj, el, h2]
  obtain ⟨b1, b2, m, hm, hmx⟩ := hb.lack_b hj h2
  obtain ⟨g, g1, g2, g3⟩ := p_greatX (S := S) hb.1.1 n40
  obtain ⟨a1, a2, a3⟩ := hb.hi hj
  have c1 : (100000 : Int32).toInt = 100000 := rfl
  have c2 : (0 : Int32).toInt = 0 := rfl
  have hgj : ∀ q, gA (nI j) 80 q = q := fun q => gA_nI (by omega) (by decide) q
  have hgi : ∀ q, gA (nI (mI Sm j)) 40 q = q := fun q => gA_nI (by omega) (by decide) q
  have hcj : (nI j).toNatClampNeg = j := nI_clamp (by omega)
  have hci : (nI (mI Sm j)).toNatClampNeg = mI Sm j := nI_clamp (by omega)
  have hin : ∀ i, i < n → 0 ≤ (Sm 1 i).toInt ∧ (Sm 1 i).toInt ≤ 100000 := fun i hi => by have := wi_int.mp (hb.1.2.2.2 i hi).2.1.1; omega
  have hgb : ∃ i, i < n ∧ Sm 1 i = g ∧ ¬ Sm 1 i ≤ mX Sm j := by
    have q1 := g2 m hm
    rw [hb.x hm] at q1
    have q2 := hin m hm
    have q3 := hin _ a1
    unfold mX at hmx
    rw [Int32.le_iff_toInt_le] at q1 hmx
    rcases g3 with e | ⟨i, q4, q5⟩
    · subst e
      omega
    · rw [hb.x q4] at q5
      refine ⟨i, q4, q5, ?_⟩
      unfold mX
      rw [Int32.le_iff_toInt_le, q5]
      omega
  have hX := u_X5_push S (nI j)
  simp only [p_has2 hb.2.2.1.1 hb.k80 hg2, b01_t h1, cli_ri, ↓reduceIte, r10, hb.lackOf hj, h2, g1, hgj, hcj, a3, hgi, hci, hb.x a1, p_move hb.1.1 n40, clv_rv] at hX
  have hM := u_X6_push Sm (nI j)
  have a2' : (up2 Sm 0 0 0) 8 j = nI (mI Sm j) := a2
  simp only [q_mark hb'.2.2.1.2.1 hb.k80, b01_t h1', cli_ri, ↓reduceIte, r10, hb'.lacks hj, el, h2, hgj, hcj, a2', hgi, hci, q_fits hb'.1.2.1 n40] at hM
  by_cases hf : fitsP (up2 Sm 0 0 0) n (mX Sm j) (lack Sm n j)
  · have hle : g + lack Sm n j ≤ 100000 := by
      obtain ⟨i, q1, q2, q3⟩ := hgb
      have := hf i q1 q3
      rw [show (up2 Sm 0 0 0) 1 i = Sm 1 i from rfl, q2] at this
      exact this
    rw [if_pos hle] at hX
    have hf' : fitsP (up2 Sm 0 0 0) n ((up2 Sm 0 0 0) 1 (mI Sm j)) (lack Sm n j) := hf
    rw [cif_t hf'] at hM
    refine ⟨_, _, _, hX, hM, ?_⟩
    refine RB.pos (n := n) (k := k) (z := z) ⟨⟨?_, ?_, n40, fun i hi => ?_⟩, hb.2.1, hb.2.2.1, hb.2.2.2⟩ rfl rfl
    · show mvS S 7 (Sm 1 (mI Sm j)) (lack Sm n j) n 1 6 = nI n
      rw [mvS_o (by decide)]
      exact hb.1.1
    · show mvS (up2 Sm 0 0 0) 1 ((up2 Sm 0 0 0) 1 (mI Sm j)) (lack Sm n j) n 0 1 = nI n
      rw [mvS_o (by decide)]
      exact hb.1.2.1
    · obtain ⟨⟨e1, e2⟩, ⟨w1, w2⟩, w3⟩ := hb.1.2.2.2 i hi
      refine ⟨⟨?_, e2⟩, ⟨?_, w2⟩, w3⟩
      · show mvS S 7 (Sm 1 (mI Sm j)) (lack Sm n j) n 7 i = mvS (up2 Sm 0 0 0) 1 (Sm 1 (mI Sm j)) (lack Sm n j) n 1 i
        unfold mvS
        rw [show (up2 Sm 0 0 0) 1 = Sm 1 from rfl, hb.x hi]
        simp
      · show wi (mvS (up2 Sm 0 0 0) 1 (Sm 1 (mI Sm j)) (lack Sm n j) n 1 i) 0 100000
        unfold mvS
        rw [show (up2 Sm 0 0 0) 1 = Sm 1 from rfl]
        split
        · rename_i q
          have q3 := hf i hi q.2.2
          rw [show (up2 Sm 0 0 0) 1 i = Sm 1 i from rfl, Int32.le_iff_toInt_le] at q3
          have q4 := hin i hi
          rw [wi_int, add_toInt (by omega) (by omega), c1, c2]
          rw [add_toInt (by omega) (by omega)] at q3
          omega
        · exact w1
  · have hle : ¬ g + lack Sm n j ≤ 100000 := by
      intro q
      apply hf
      intro i hi w
      show Sm 1 i + lack Sm n j ≤ 100000
      have q1 := g2 i hi
      rw [hb.x hi] at q1
      obtain ⟨i', q4, q5, -⟩ := hgb
      have q6 := hin i' q4
      have q7 := hin i hi
      rw [q5] at q6
      rw [Int32.le_iff_toInt_le] at q q1 ⊢
      rw [add_toInt (by omega) (by omega)] at q ⊢
      omega
    rw [if_neg hle] at hX
    have hf' : ¬ fitsP (up2 Sm 0 0 0) n ((up2 Sm 0 0 0) 1 (mI Sm j)) (lack Sm n j) := hf
    rw [cif_f hf'] at hM
    exact PD.same hPL hr hX hM
