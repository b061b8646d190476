/-! PURE PART: wide, push. -/
/-- of those to the right of x, the first of the nearest -/
def nx (f : Nat → Int32) (x : Int32) : Nat → Option Nat
  | 0 => none
  | i + 1 => if f i ≤ x then nx f x i else match nx f x i with
    | none => some i
    | some m => if f m ≤ f i then some m else some i
def oI (d : Int32) (o : Option Nat) : Int32 := match o with
  | none => d
  | some m => nI m
theorem nx_lt {f : Nat → Int32} {x : Int32} : ∀ i m, nx f x i = some m → m < i ∧ ¬ f m ≤ x := by
  intro i
  induction i with
  | zero => intro m h; cases h
  | succ i ih =>
    intro m h
    unfold nx at h
    split at h
    · obtain ⟨q1, q2⟩ := ih m h
      exact ⟨by omega, q2⟩
    · rename_i hx
      split at h
      · cases Option.some.inj h
        exact ⟨by omega, hx⟩
      · rename_i m' e
        split at h
        · cases Option.some.inj h
          obtain ⟨q1, q2⟩ := ih _ e
          exact ⟨by omega, q2⟩
        · cases Option.some.inj h
          exact ⟨by omega, hx⟩
theorem nx_agr {f g : Nat → Int32} {x : Int32} : ∀ n, (∀ j, j < n → f j = g j) → nx f x n = nx g x n := by
  intro n
  induction n with
  | zero => intro _; rfl
  | succ n ih =>
    intro h
    unfold nx
    rw [ih (fun j hj => h j (by omega)), h n (by omega)]
    cases e : nx g x n with
    | none => rfl
    | some m => simp only [h m (by have := (nx_lt n m e).1; omega)]
theorem p_next {S : XS} {n : Nat} (hn : S 1 6 = nI n) (h40 : n ≤ 40) {j : Nat} (hj : j < n) : m_X0_next [.inr 1, .inl (nI j)] S = ri S (oI (-1) (nx (S 7) (S 7 j) n)) := by
  rw [u_X0_next]
  refine lp0 (b := fun fl i (acc : Int32) => b_X0_next_4 fl [(0, .inr 1), (1, .inl (nI j)), (2, .inl acc), (3, .inl (nI i))] [] S) (N := n) (by omega) (fun i acc => acc = oI (-1) (nx (S 7) (S 7 j) i)) (fun r => r = ri S (oI (-1) (nx (S 7) (S 7 j) n))) rfl ?_ ?_
  · rintro fl i s hi rfl
    left
    simp only [u_X0_next_4, hn, if_neg (nI_ge hi (by omega)), gA_nI (show i < 40 by omega) (by decide), gA_nI (show j < 40 by omega) (by decide), nI_clamp (show i < 2 ^ 31 by omega), nI_clamp (show j < 2 ^ 31 by omega), nI_1]
    refine ⟨_, rfl, ?_⟩
    rw [nx]
    by_cases h1 : S 7 i ≤ S 7 j
    · rw [if_pos h1, if_pos h1]
    · rw [if_neg h1, if_neg h1]
      cases e : nx (S 7) (S 7 j) i with
      | none => rw [if_pos (show oI (-1) none < 0 by decide)]; rfl
      | some m =>
        have hm := (nx_lt i m e).1
        simp only [oI, if_neg (nI_pos (show m < 2 ^ 31 by omega)), gA_nI (show m < 40 by omega) (by decide), nI_clamp (show m < 2 ^ 31 by omega)]
        by_cases h2 : S 7 m ≤ S 7 i
        · simp only [if_pos h2]
        · simp only [if_neg h2]
  · rintro fl s rfl
    simp only [u_X0_next_4, hn, if_pos (nI_le (Nat.le_refl n) (by omega))]
theorem q_next {S : XS} {n : Nat} (hn : S 0 1 = nI n) (h40 : n ≤ 40) {j : Nat} (hj : j < n) : m_X6_nextOf [.inr 0, .inl (nI j)] S = ri S (oI (-100003) (nx (S 1) (S 1 j) n)) := by
  rw [u_X6_nextOf]
  refine lp0 (b := fun fl i (acc : Int32) => b_X6_nextOf_5 fl [(0, .inr 0), (1, .inl (nI j)), (2, .inl acc), (3, .inl (nI i))] [] S) (N := n) (by omega) (fun i acc => acc = oI (-100003) (nx (S 1) (S 1 j) i)) (fun r => r = ri S (oI (-100003) (nx (S 1) (S 1 j) n))) rfl ?_ ?_
  · rintro fl i s hi rfl
    left
    simp only [u_X6_nextOf_5, hn, if_neg (nI_ge hi (by omega)), gA_nI (show i < 40 by omega) (by decide), gA_nI (show j < 40 by omega) (by decide), nI_clamp (show i < 2 ^ 31 by omega), nI_clamp (show j < 2 ^ 31 by omega), nI_1]
    refine ⟨_, rfl, ?_⟩
    rw [nx]
    by_cases h1 : S 1 i ≤ S 1 j
    · rw [if_pos h1, if_pos h1]
    · rw [if_neg h1, if_neg h1]
      cases e : nx (S 1) (S 1 j) i with
      | none => rw [if_pos (show oI (-100003) none = -100003 by decide)]; rfl
      | some m =>
        have hm := (nx_lt i m e).1
        have hne : ¬ nI m = -100003 := fun q => nI_pos (show m < 2 ^ 31 by omega) (by rw [q]; decide)
        simp only [oI, if_neg hne, gA_nI (show m < 40 by omega) (by decide), nI_clamp (show m < 2 ^ 31 by omega)]
        by_cases h2 : S 1 m ≤ S 1 i
        · simp only [if_pos h2]
        · simp only [if_neg h2]
  · rintro fl s rfl
    simp only [u_X6_nextOf_5, hn, if_pos (nI_le (Nat.le_refl n) (by omega))]
/-- of a mark: its item, its item's x, its kind, a setting of its kind -/
def mI (S : XS) (j : Nat) : Nat := (S 8 j).toNatClampNeg
def mX (S : XS) (j : Nat) : Int32 := S 1 (mI S j)
def mK (S : XS) (j : Nat) : Nat := (S 9 j).toNatClampNeg
def mG (S : XS) (j w : Nat) : Int32 := S 7 (6 * mK S j + w)
theorem RB.hi {n k z : Nat} {S Sm : XS} (h : RB n k z S Sm) {j : Nat} (hj : j < k) : mI Sm j < n ∧ Sm 8 j = nI (mI Sm j) ∧ S 14 j = nI (mI Sm j) := by
  obtain ⟨i, q1, q2⟩ := (h.2.2.1.2.2.2 j hj).2.1
  have h40 := h.1.2.2.1
  have e : mI Sm j = i := by unfold mI; rw [q2, nI_clamp (by omega)]
  rw [e]
  exact ⟨q1, q2, by rw [(h.2.2.1.2.2.2 j hj).1.1, q2]⟩
theorem RB.hk {n k z : Nat} {S Sm : XS} (h : RB n k z S Sm) {j : Nat} (hj : j < k) : mK Sm j < 10 ∧ Sm 9 j = nI (mK Sm j) ∧ S 15 j = nI (mK Sm j) := by
  obtain ⟨i, q1, q2⟩ := (h.2.2.1.2.2.2 j hj).2.2.1
  have e : mK Sm j = i := by unfold mK; rw [q2, nI_clamp (by omega)]
  rw [e]
  exact ⟨q1, q2, by rw [(h.2.2.1.2.2.2 j hj).1.2.1, q2]⟩
theorem RB.x {n k z : Nat} {S Sm : XS} (h : RB n k z S Sm) {i : Nat} (hi : i < n) : S 7 i = Sm 1 i := (h.1.2.2.2 i hi).1.1
theorem RB.n40 {n k z : Nat} {S Sm : XS} (h : RB n k z S Sm) : n ≤ 40 := h.1.2.2.1
theorem RB.k80 {n k z : Nat} {S Sm : XS} (h : RB n k z S Sm) : k ≤ 80 := h.2.2.1.2.2.1.1
theorem RB.z10 {n k z : Nat} {S Sm : XS} (h : RB n k z S Sm) : z ≤ 10 := h.2.2.2.2.2.1
theorem RB.m {n k z : Nat} {S Sm : XS} (h : RB n k z S Sm) {j : Nat} (hj : j < k) : RMj n j S Sm := h.2.2.1.2.2.2 j hj
theorem p_get {S : XS} {kd w : Nat} (h1 : kd < 10) (h2 : w < 6) : m_X1_get [.inr 2, .inl (nI kd), .inl (nI w)] S = ri S (S 13 (6 * kd + w)) := by
  rw [u_X1_get, ix6, gA_nI (by omega) (by decide), nI_clamp (by omega)]
theorem RB.get {n k z : Nat} {S Sm : XS} (h : RB n k z S Sm) {j : Nat} (hj : j < k) {w : Nat} (hw : w < 6) : m_X1_get [.inr 2, .inl (nI (mK Sm j)), .inl (nI w)] S = ri S (mG Sm j w) := by
  rw [p_get (h.hk hj).1 hw, (h.2.1 _ _ (h.hk hj).1 hw).1]
  rfl
theorem RB.gw {n k z : Nat} {S Sm : XS} (h : RB n k z S Sm) {j : Nat} (hj : j < k) {w : Nat} (hw : w < 6) : wi (mG Sm j w) 0 (mostf w) := (h.2.1 _ _ (h.hk hj).1 hw).2
theorem RB.lies {n k z : Nat} {S Sm : XS} (h : RB n k z S Sm) {j : Nat} (hj : j < k) : m_X1_liesFromX [.inr 2, .inl (nI (mK Sm j))] S = ri S (b01 (mG Sm j 2 = 1)) := by
  have e : m_X1_get [.inr 2, .inl (nI (mK Sm j)), .inl 2] S = ri S (mG Sm j 2) := h.get hj (w := 2) (by decide)
  rw [u_X1_liesFromX, e, cli_ri]
  split
  · rw [b01_t (by assumption)]
  · rw [b01_f (by assumption)]
theorem RB.inr {n k z : Nat} {S Sm : XS} (h : RB n k z S Sm) {j : Nat} (hj : j < k) : m_X1_isInRow [.inr 2, .inl (nI (mK Sm j))] S = ri S (b01 (mG Sm j 4 = 1)) := by
  have e : m_X1_get [.inr 2, .inl (nI (mK Sm j)), .inl 4] S = ri S (mG Sm j 4) := h.get hj (w := 4) (by decide)
  rw [u_X1_isInRow, e, cli_ri]
  split
  · rw [b01_t (by assumption)]
  · rw [b01_f (by assumption)]
/-- the left edge -/
def lf (S : XS) (j : Nat) : Int32 := if mG S j 2 = 1 then mX S j else mX S j - S 10 j / 2
theorem ixM {S : XS} {j kd w : Nat} (h : S 9 j = nI kd) : 6 * S 9 j + nI w = nI (6 * kd + w) := by rw [h, ix6']
theorem RB.left {n k z : Nat} {S Sm : XS} (h : RB n k z S Sm) {j : Nat} (hj : j < k) : m_X6_left [.inr 0, .inl (nI j)] Sm = ri Sm (lf Sm j) := by
  have h80 := h.k80
  have h40 := h.n40
  obtain ⟨a1, a2, -⟩ := h.hi hj
  obtain ⟨b1, b2, -⟩ := h.hk hj
  have e : 6 * nI (mK Sm j) + 2 = nI (6 * mK Sm j + 2) := ix6' _ 2
  rw [u_X6_left, nI_clamp (by omega), a2, b2, e]
  simp only [gA_nI (show j < 80 by omega) (by decide), gA_nI (show mI Sm j < 40 by omega) (by decide), gA_nI (show 6 * mK Sm j + 2 < 60 by omega) (by decide), nI_clamp (show mI Sm j < 2 ^ 31 by omega), nI_clamp (show 6 * mK Sm j + 2 < 2 ^ 31 by omega)]
  unfold lf
  split
  · rename_i q
    rw [if_pos (show mG Sm j 2 = 1 from q)]
    rfl
  · rename_i q
    rw [if_neg (show ¬ mG Sm j 2 = 1 from q)]
    rfl
theorem RB.leftEdge {n k z : Nat} {S Sm : XS} (h : RB n k z S Sm) {j : Nat} (hj : j < k) : m_X5_leftEdge [.inr 0, .inl (nI j)] S = ri S (lf Sm j) := by
  have h80 := h.k80
  have h40 := h.n40
  obtain ⟨a1, -, a2⟩ := h.hi hj
  obtain ⟨b1, -, b2⟩ := h.hk hj
  rw [u_X5_leftEdge, nI_clamp (by omega), a2, b2, h.lies hj]
  simp only [gA_nI (show j < 80 by omega) (by decide), gA_nI (show mI Sm j < 40 by omega) (by decide), nI_clamp (show mI Sm j < 2 ^ 31 by omega), cli_ri, h.x a1, (h.m hj).1.2.2.1]
  unfold lf
  by_cases q : mG Sm j 2 = 1
  · rw [b01_t q, if_pos q]
    rfl
  · rw [b01_f q, if_neg q]
    rfl
def lack (S : XS) (n j : Nat) : Int32 := if mG S j 2 = 1 then (match nx (S 1) (mX S j) n with
  | none => 0
  | some m => if 0 < mX S j + S 10 j + 4 - S 1 m then mX S j + S 10 j + 4 - S 1 m else 0) else 0
theorem RB.lackOf {n k z : Nat} {S Sm : XS} (h : RB n k z S Sm) {j : Nat} (hj : j < k) : m_X5_lackOf [.inr 0, .inl (nI j)] S = ri S (lack Sm n j) := by
  have h80 := h.k80
  have h40 := h.n40
  obtain ⟨a1, -, a2⟩ := h.hi hj
  obtain ⟨b1, -, b2⟩ := h.hk hj
  rw [u_X5_lackOf, nI_clamp (by omega), a2, p_next h.1.1 h40 a1]
  simp only [cli_ri, b2, h.lies hj, gA_nI (show j < 80 by omega) (by decide), gA_nI (show mI Sm j < 40 by omega) (by decide), nI_clamp (show mI Sm j < 2 ^ 31 by omega), h.x a1, (h.m hj).1.2.2.1]
  rw [nx_agr n (fun i hi => h.x hi)]
  unfold lack
  by_cases q : mG Sm j 2 = 1
  · rw [b01_t q, if_pos q]
    simp only [r10, ↓reduceIte]
    unfold mX
    cases e : nx (Sm 1) (Sm 1 (mI Sm j)) n with
    | none =>
      simp only [oI]
      exact if_neg (by decide)
    | some m =>
      have hm := (nx_lt n m e).1
      simp only [oI, if_pos (nI_pos' (show m < 2 ^ 31 by omega)), gA_nI (show m < 40 by omega) (by decide), nI_clamp (show m < 2 ^ 31 by omega), h.x hm]
  · rw [b01_f q, if_neg q]
    simp only [↓reduceIte]
theorem wi01_not {a : Int32} (h : wi a 0 1) : (a = 0) ↔ ¬ a = 1 := by
  rcases wi01 h with e | e <;> subst e <;> decide
theorem RB.lacks {n k z : Nat} {S Sm : XS} (h : RB n k z S Sm) {j : Nat} (hj : j < k) : m_X6_lacks [.inr 0, .inl (nI j)] Sm = ri Sm (lack Sm n j) := by
  have h80 := h.k80
  have h40 := h.n40
  obtain ⟨a1, a2, -⟩ := h.hi hj
  obtain ⟨b1, b2, -⟩ := h.hk hj
  have e6 : 6 * nI (mK Sm j) + 2 = nI (6 * mK Sm j + 2) := ix6' _ 2
  have eg : Sm 7 (6 * mK Sm j + 2) = mG Sm j 2 := rfl
  rw [u_X6_lacks, nI_clamp (by omega), a2, q_next h.1.2.1 h40 a1]
  simp only [cli_ri, b2, e6, gA_nI (show j < 80 by omega) (by decide), gA_nI (show 6 * mK Sm j + 2 < 60 by omega) (by decide), nI_clamp (show 6 * mK Sm j + 2 < 2 ^ 31 by omega), eg, h.left hj]
  unfold lack
  by_cases q : mG Sm j 2 = 1
  · have q0 : ¬ mG Sm j 2 = 0 := fun w => ((wi01_not (h.gw hj (w := 2) (by decide))).mp w) q
    have ql : lf Sm j = mX Sm j := by unfold lf; rw [if_pos q]
    rw [if_neg q0, if_pos q, ql]
    unfold mX
    cases e : nx (Sm 1) (Sm 1 (mI Sm j)) n with
    | none => simp only [oI, ↓reduceIte]
    | some m =>
      have hm := (nx_lt n m e).1
      have hne : ¬ nI m = -100003 := fun q => nI_pos (show m < 2 ^ 31 by omega) (by rw [q]; decide)
      simp only [oI, if_neg hne, gA_nI (show m < 40 by omega) (by decide), nI_clamp (show m < 2 ^ 31 by omega)]
      by_cases w : 0 < Sm 1 (mI Sm j) + Sm 10 j + 4 - Sm 1 m
      · rw [if_pos w, if_neg (by rw [Int32.not_le]; exact w)]
      · rw [if_neg w, if_pos (by rw [← Int32.not_lt]; exact w)]
  · have q0 : mG Sm j 2 = 0 := (wi01_not (h.gw hj (w := 2) (by decide))).mpr q
    rw [if_pos q0, if_neg q]
theorem s_wide {PL : Nat → Nat → Nat → XS → XS → Prop} (hPL : PLok PL) {S Sm : XS} (hr : RelP PL S Sm) (a1 : Int32) : PD (RelP PL) m_X5_wide m_X6_wide S Sm [.inl a1] := by
  obtain ⟨n, k, z, hb, hp⟩ := id hr
  have hb' : RB n k z S (up2 Sm 0 0 0) := hb.of bsX.rf bsM.code
  by_cases h1 : okM Sm k a1
  case neg =>
    refine PD.same hPL hr (r := -100001) ?_ ?_
    · simp only [u_X5_wide, p_has2 hb.2.2.1.1 hb.k80 (fun j hj => (hb.2.2.1.2.2.1.2 j).1), b01_f h1, cli_ri, ↓reduceIte]
    · simp only [u_X6_wide, q_mark hb'.2.2.1.2.1 hb.k80, b01_f (show ¬ okM (up2 Sm 0 0 0) k a1 from h1), cli_ri, ↓reduceIte]
  obtain ⟨j, hj, rfl, hj0⟩ := id h1
  refine PD.same hPL hr (r := lack Sm n j) ?_ ?_
  · simp only [u_X5_wide, p_has2 hb.2.2.1.1 hb.k80 (fun j hj => (hb.2.2.1.2.2.1.2 j).1), b01_t h1, cli_ri, ↓reduceIte, r10, hb.lackOf hj]
  · simp only [u_X6_wide, q_mark hb'.2.2.1.2.1 hb.k80, b01_t (show okM (up2 Sm 0 0 0) k (nI j) from h1), cli_ri, ↓reduceIte, r10, hb'.lacks hj]
    rfl
