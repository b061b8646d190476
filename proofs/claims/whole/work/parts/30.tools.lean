/-! PURE PART: tools. -/
abbrev ri (S : XS) (r : Int32) : Option RS := some (S, some (some (.inl r)))
abbrev rv (S : XS) : Option RS := some (S, some none)
theorem cli_ri (S : XS) (r : Int32) (k : XS → Int32 → Option RS) : cli (ri S r) k = k S r := rfl
theorem clv_rv (S : XS) (k : XS → Option RS) : clv (rv S) k = k S := rfl
theorem cli_ite {c : Prop} [Decidable c] (a b : Option RS) (k : XS → Int32 → Option RS) : cli (if c then a else b) k = if c then cli a k else cli b k := by
  split <;> rfl
theorem gA_nI {i n : Nat} (h : i < n) (hn : n < 2 ^ 31) (k : Option RS) : gA (nI i) n k = k := by
  unfold gA
  rw [if_pos]
  rw [nI_toInt (by omega)]
  omega
theorem up2_at (S : XS) (k i : Nat) (v : Int32) (a b : Nat) : up2 S k i v a b = if a = k then (if b = i then v else S k b) else S a b := by
  unfold up2
  split
  · rfl
  · rfl
theorem up2_o (S : XS) {k i a : Nat} {v : Int32} (b : Nat) (h : a ≠ k) : up2 S k i v a b = S a b := by
  rw [up2_at, if_neg h]
theorem up2_s (S : XS) {k i : Nat} {v : Int32} : up2 S k i v k i = v := by
  rw [up2_at, if_pos rfl, if_pos rfl]
theorem up2_n (S : XS) {k i b : Nat} {v : Int32} (h : b ≠ i) : up2 S k i v k b = S k b := by
  rw [up2_at, if_pos rfl, if_neg h]
/-- a loop over i, i + 1, .. (d turns) -/
def fold {α : Type} (f : Nat → α → α) : Nat → Nat → α → α
  | _, 0, a => a
  | i, d + 1, a => fold f (i + 1) d (f i a)
theorem fold_rel {α β : Type} {R : α → β → Prop} {f : Nat → α → α} {g : Nat → β → β} : ∀ (d i : Nat) (a : α) (b : β), R a b → (∀ j a b, i ≤ j → j < i + d → R a b → R (f j a) (g j b)) → R (fold f i d a) (fold g i d b) := by
  intro d
  induction d with
  | zero => intro i a b h _; exact h
  | succ d ih =>
    intro i a b h hs
    exact ih (i + 1) _ _ (hs i a b (Nat.le_refl _) (by omega) h) (fun j a b h1 h2 => hs j a b (by omega) (by omega))
theorem fold_inv {α : Type} {I : Nat → α → Prop} {f : Nat → α → α} : ∀ (d i : Nat) (a : α), I i a → (∀ j a, i ≤ j → j < i + d → I j a → I (j + 1) (f j a)) → I (i + d) (fold f i d a) := by
  intro d
  induction d with
  | zero => intro i a h _; exact h
  | succ d ih =>
    intro i a h hs
    have := ih (i + 1) (f i a) (hs i a (Nat.le_refl _) (by omega) h) (fun j a h1 h2 => hs j a (by omega) (by omega))
    rw [show i + (d + 1) = i + 1 + d by omega]
    exact this
/-- a number within bounds, a number of a thing -/
def wi (a l h : Int32) : Prop := ¬ a < l ∧ ¬ h < a
def okI (c a : Int32) : Prop := ¬ a < 0 ∧ ¬ c ≤ a
noncomputable def b01 (c : Prop) : Int32 := @ite _ c (Classical.propDecidable c) 1 0
theorem b01_t {c : Prop} (h : c) : b01 c = 1 := by unfold b01; exact if_pos h
theorem b01_f {c : Prop} (h : ¬ c) : b01 c = 0 := by unfold b01; exact if_neg h
theorem b01_0 {c : Prop} : b01 c = 0 ↔ ¬ c := by
  constructor
  · intro h hc
    rw [b01_t hc] at h
    exact absurd h (by decide)
  · exact b01_f
theorem b01_1 {c : Prop} : b01 c = 1 ↔ c := by
  constructor
  · intro h
    by_cases hc : c
    · exact hc
    · rw [b01_f hc] at h
      exact absurd h (by decide)
  · exact b01_t
theorem b01_iff {c d : Prop} (h : c ↔ d) : b01 c = b01 d := by rw [propext h]
theorem p_within (S : XS) (a l h : Int32) : m_X5_isWithin [.inl a, .inl l, .inl h] S = ri S (b01 (wi a l h)) := by
  rw [u_X5_isWithin]
  split
  · rw [b01_f (fun q => q.1 (by assumption))]
  · split
    · rw [b01_f (fun q => q.2 (by assumption))]
    · rw [b01_t ⟨by assumption, by assumption⟩]
theorem q_in (S : XS) (a l h : Int32) : m_X6_in [.inl a, .inl l, .inl h] S = ri S (b01 (wi a l h)) := by
  rw [u_X6_in]
  split
  · rw [b01_f (fun q => q.1 (by assumption))]
  · split
    · rw [b01_f (fun q => q.2 (by assumption))]
    · rw [b01_t ⟨by assumption, by assumption⟩]
theorem p_head (S : XS) (a : Int32) : m_X5_isHead [.inl a] S = ri S (b01 (wi a (-60) 60)) := by
  rw [u_X5_isHead, p_within]
  simp only [cli_ri]
  by_cases h : wi a (-60) 60
  · rw [b01_t h]; rfl
  · rw [b01_f h]; rfl
theorem p_has0 (S : XS) (a : Int32) : m_X0_has [.inr 1, .inl a] S = ri S (b01 (okI (S 1 6) a)) := by
  rw [u_X0_has]
  split
  · rw [b01_f (fun q => q.1 (by assumption))]
  · split
    · rw [b01_f (fun q => q.2 (by assumption))]
    · rw [b01_t ⟨by assumption, by assumption⟩]
theorem q_item (S : XS) (a : Int32) : m_X6_isItem [.inr 0, .inl a] S = ri S (b01 (okI (S 0 1) a)) := by
  rw [u_X6_isItem]
  split
  · rw [b01_f (fun q => q.1 (by assumption))]
  · split
    · rw [b01_f (fun q => q.2 (by assumption))]
    · rw [b01_t ⟨by assumption, by assumption⟩]
theorem okI_iff {n : Nat} (hn : n < 2 ^ 31) {a : Int32} : okI (nI n) a ↔ ∃ j, j < n ∧ a = nI j := by
  constructor
  · rintro ⟨h1, h2⟩
    obtain ⟨j, hj, rfl⟩ := nI_of h1
    exact ⟨j, by rw [nI_leI hn hj] at h2; omega, rfl⟩
  · rintro ⟨j, hj, rfl⟩
    exact ⟨nI_pos (by omega), by rw [nI_leI hn (by omega)]; omega⟩
/-- some of the first n is x -/
def exq (f : Nat → Int32) (i n : Nat) (x : Int32) : Prop := ∃ j, i ≤ j ∧ j < n ∧ f j = x
theorem exq_step {f : Nat → Int32} {i n : Nat} {x : Int32} (h : f i ≠ x) : exq f (i + 1) n x ↔ exq f i n x := by
  constructor
  · rintro ⟨j, h1, h2, h3⟩
    exact ⟨j, by omega, h2, h3⟩
  · rintro ⟨j, h1, h2, h3⟩
    refine ⟨j, ?_, h2, h3⟩
    rcases Nat.lt_or_ge i j with q | q
    · exact q
    · exact absurd (by rw [show i = j by omega]; exact h3) h
theorem p_isAt_l {S : XS} {n : Nat} (hn : S 1 6 = nI n) (h40 : n ≤ 40) (x : Int32) : ∀ (d i fl : Nat), i + d = n → d < fl → b_X0_isAt_2 fl [(0, .inr 1), (1, .inl x), (2, .inl (nI i))] [] S = ri S (b01 (exq (S 7) i n x)) := by
  intro d
  induction d with
  | zero =>
    intro i fl h1 h2
    obtain ⟨fl, rfl⟩ : ∃ q, fl = q + 1 := ⟨fl - 1, by omega⟩
    rw [u_X0_isAt_2, hn, if_pos (nI_le (by omega) (by omega)), b01_f]
    rintro ⟨j, h3, h4, -⟩
    omega
  | succ d ih =>
    intro i fl h1 h2
    obtain ⟨fl, rfl⟩ : ∃ q, fl = q + 1 := ⟨fl - 1, by omega⟩
    rw [u_X0_isAt_2, hn, if_neg (nI_ge (by omega) (by omega)), gA_nI (by omega) (by decide), nI_clamp (by omega)]
    split
    · rename_i he
      rw [b01_t ⟨i, Nat.le_refl _, by omega, he⟩]
    · rename_i he
      rw [nI_1, ih (i + 1) fl (by omega) (by omega), b01_iff (exq_step he)]
theorem p_isAt {S : XS} {n : Nat} (hn : S 1 6 = nI n) (h40 : n ≤ 40) (x : Int32) : m_X0_isAt [.inr 1, .inl x] S = ri S (b01 (exq (S 7) 0 n x)) := by
  rw [u_X0_isAt]
  exact p_isAt_l hn h40 x n 0 fu (by omega) (by rw [fu_eq]; omega)
theorem q_taken_l {S : XS} {n : Nat} (hn : S 0 1 = nI n) (h40 : n ≤ 40) (x : Int32) : ∀ (d i fl : Nat), i + d = n → d < fl → b_X6_isTaken_2 fl [(0, .inr 0), (1, .inl x), (2, .inl (nI i))] [] S = ri S (b01 (exq (S 1) i n x)) := by
  intro d
  induction d with
  | zero =>
    intro i fl h1 h2
    obtain ⟨fl, rfl⟩ : ∃ q, fl = q + 1 := ⟨fl - 1, by omega⟩
    rw [u_X6_isTaken_2, hn, if_pos (nI_le (by omega) (by omega)), b01_f]
    rintro ⟨j, h3, h4, -⟩
    omega
  | succ d ih =>
    intro i fl h1 h2
    obtain ⟨fl, rfl⟩ : ∃ q, fl = q + 1 := ⟨fl - 1, by omega⟩
    rw [u_X6_isTaken_2, hn, if_neg (nI_ge (by omega) (by omega)), gA_nI (by omega) (by decide), nI_clamp (by omega)]
    split
    · rename_i he
      rw [b01_t ⟨i, Nat.le_refl _, by omega, he⟩]
    · rename_i he
      rw [nI_1, ih (i + 1) fl (by omega) (by omega), b01_iff (exq_step he)]
theorem q_taken {S : XS} {n : Nat} (hn : S 0 1 = nI n) (h40 : n ≤ 40) (x : Int32) : m_X6_isTaken [.inr 0, .inl x] S = ri S (b01 (exq (S 1) 0 n x)) := by
  rw [u_X6_isTaken]
  exact q_taken_l hn h40 x n 0 fu (by omega) (by rw [fu_eq]; omega)
