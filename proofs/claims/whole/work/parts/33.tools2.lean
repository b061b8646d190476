/-! PURE PART: more tools. -/
theorem r10 : ((1 : Int32) = 0) = False := eq_false (by decide)
theorem r00 : ((0 : Int32) = 0) = True := eq_self 0
/-- a loop that counts up to N; it may stop before; F doesn't speak of the fuel -/
theorem lp {β : Type} {b : Nat → Nat → β → Option RS} {N : Nat} (I : Nat → β → Prop) (F : Option RS → Prop) (hs : ∀ fl i s, i < N → I i s → (∃ s', I (i + 1) s' ∧ b (fl + 1) i s = b fl (i + 1) s') ∨ F (b (fl + 1) i s)) (he : ∀ fl s, I N s → F (b (fl + 1) N s)) : ∀ (d i fl : Nat) (s : β), i + d = N → d < fl → I i s → F (b fl i s) := by
  intro d
  induction d with
  | zero =>
    intro i fl s h1 h2 h3
    obtain ⟨fl, rfl⟩ : ∃ q, fl = q + 1 := ⟨fl - 1, by omega⟩
    have e : i = N := by omega
    subst e
    exact he fl s h3
  | succ d ih =>
    intro i fl s h1 h2 h3
    obtain ⟨fl, rfl⟩ : ∃ q, fl = q + 1 := ⟨fl - 1, by omega⟩
    rcases hs fl i s (by omega) h3 with ⟨s', q1, q2⟩ | q
    · rw [q2]
      exact ih (i + 1) fl s' (by omega) (by omega) q1
    · exact q
theorem lp0 {β : Type} {b : Nat → Nat → β → Option RS} {N : Nat} (hN : N < 200) (I : Nat → β → Prop) (F : Option RS → Prop) {s : β} (h0 : I 0 s) (hs : ∀ fl i s, i < N → I i s → (∃ s', I (i + 1) s' ∧ b (fl + 1) i s = b fl (i + 1) s') ∨ F (b (fl + 1) i s)) (he : ∀ fl s, I N s → F (b (fl + 1) N s)) : F (b fu 0 s) :=
  lp I F hs he N 0 fu s (by omega) (by rw [fu_eq]; omega) h0
theorem add_toInt {a b : Int32} (h1 : -2147483648 ≤ a.toInt + b.toInt) (h2 : a.toInt + b.toInt < 2147483648) : (a + b).toInt = a.toInt + b.toInt := by
  rw [Int32.toInt_add]
  exact Int.bmod_eq_of_le (by omega) (by omega)
theorem sub_toInt {a b : Int32} (h1 : -2147483648 ≤ a.toInt - b.toInt) (h2 : a.toInt - b.toInt < 2147483648) : (a - b).toInt = a.toInt - b.toInt := by
  rw [Int32.toInt_sub]
  exact Int.bmod_eq_of_le (by omega) (by omega)
theorem wi_int {a l h : Int32} : wi a l h ↔ l.toInt ≤ a.toInt ∧ a.toInt ≤ h.toInt := by
  unfold wi
  rw [Int32.lt_iff_toInt_lt, Int32.lt_iff_toInt_lt]
  omega
theorem wi_nI {a h : Int32} {m : Nat} (hm : h.toInt = m) : wi a 0 h ↔ ∃ j, j ≤ m ∧ a = nI j := by
  constructor
  · rintro ⟨h1, h2⟩
    obtain ⟨j, hj, rfl⟩ := nI_of h1
    refine ⟨j, ?_, rfl⟩
    rw [Int32.lt_iff_toInt_lt, nI_toInt hj] at h2
    omega
  · rintro ⟨j, hj, rfl⟩
    have hh : h.toInt < 2 ^ 31 := Int32.toInt_lt h
    rw [wi_int, nI_toInt (by omega), hm]
    exact ⟨by rw [Int32.toInt_zero]; omega, by omega⟩
theorem p_has1 (S : XS) (a : Int32) : m_X1_has [.inr 2, .inl a] S = ri S (b01 (wi a 0 9)) := by
  have e : (10 ≤ a) ↔ (9 < a) := by
    rw [Int32.le_iff_toInt_le, Int32.lt_iff_toInt_lt, show (10 : Int32).toInt = 10 from rfl, show (9 : Int32).toInt = 9 from rfl]
    omega
  rw [u_X1_has]
  split
  · rw [b01_f (fun q => q.1 (by assumption))]
  · split
    · rename_i h
      rw [b01_f (fun q => q.2 (e.mp h))]
    · rename_i h1 h2
      rw [b01_t ⟨h1, fun q => h2 (e.mpr q)⟩]
def okM (S : XS) (k : Nat) (a : Int32) : Prop := ∃ j, j < k ∧ a = nI j ∧ S 12 j = 0
theorem q_mark {S : XS} {k : Nat} (hk : S 0 9 = nI k) (h80 : k ≤ 80) (a : Int32) : m_X6_isMark [.inr 0, .inl a] S = ri S (b01 (okM S k a)) := by
  rw [u_X6_isMark, hk]
  split
  · rename_i h
    rw [b01_f]
    rintro ⟨j, h1, rfl, -⟩
    exact nI_pos (by omega) h
  · rename_i h
    obtain ⟨j, hj, rfl⟩ := nI_of h
    split
    · rename_i h2
      rw [b01_f]
      rintro ⟨i, h3, h4, -⟩
      rw [nI_eq (by omega) (by omega)] at h4
      rw [nI_leI (by omega) hj] at h2
      omega
    · rename_i h2
      rw [nI_leI (by omega) hj] at h2
      rw [gA_nI (by omega) (by decide), nI_clamp hj]
      split
      · rename_i h3
        rw [b01_t ⟨j, by omega, rfl, h3⟩]
      · rename_i h3
        rw [b01_f]
        rintro ⟨i, h4, h5, h6⟩
        rw [nI_eq (by omega) (by omega)] at h5
        subst h5
        exact h3 h6
theorem p_has2 {S : XS} {k : Nat} (hk : S 3 11 = nI k) (h80 : k ≤ 80) {Sm : XS} (hg : ∀ j, j < k → S 18 j = Sm 12 j) (a : Int32) : m_X2_has [.inr 3, .inl a] S = ri S (b01 (okM Sm k a)) := by
  rw [u_X2_has, hk]
  split
  · rename_i h
    rw [b01_f]
    rintro ⟨j, h1, rfl, -⟩
    exact nI_pos (by omega) h
  · rename_i h
    obtain ⟨j, hj, rfl⟩ := nI_of h
    split
    · rename_i h2
      rw [b01_f]
      rintro ⟨i, h3, h4, -⟩
      rw [nI_eq (by omega) (by omega)] at h4
      rw [nI_leI (by omega) hj] at h2
      omega
    · rename_i h2
      rw [nI_leI (by omega) hj] at h2
      rw [gA_nI (by omega) (by decide), nI_clamp hj, hg j (by omega)]
      split
      · rename_i h3
        rw [b01_t ⟨j, by omega, rfl, h3⟩]
      · rename_i h3
        rw [b01_f]
        rintro ⟨i, h4, h5, h6⟩
        rw [nI_eq (by omega) (by omega)] at h5
        subst h5
        exact h3 h6
def sdP (a : Int32) : Prop := a = 1 ∨ a = -1
theorem p_side (S : XS) (a : Int32) : m_X5_isSide [.inl a] S = ri S (b01 (sdP a)) := by
  rw [u_X5_isSide]
  split
  · rw [b01_t (show sdP a from Or.inl (by assumption))]
  · split
    · rw [b01_t (show sdP a from Or.inr (by assumption))]
    · rw [b01_f (fun q => q.elim (by assumption) (by assumption))]
theorem q_side (S : XS) (a : Int32) : m_X6_isSide [.inl a] S = ri S (b01 (sdP a)) := by
  rw [u_X6_isSide]
  split
  · rw [b01_t (show sdP a from Or.inl (by assumption))]
  · split
    · rw [b01_t (show sdP a from Or.inr (by assumption))]
    · rw [b01_f (fun q => q.elim (by assumption) (by assumption))]
theorem nar1 : vp_nar .boolean 1 = 1 := by decide
theorem nar0 : vp_nar .boolean 0 = 0 := by decide
/-- a step that answers the same and changes nothing but the code -/
theorem PD.same {PL : Nat → Nat → Nat → XS → XS → Prop} (hPL : PLok PL) {S Sm : XS} (hr : RelP PL S Sm) {mx mm : MT} {t : List AV} {r : Int32} (h1 : mx (.inr 0 :: t) S = ri S r) (h2 : mm (.inr 0 :: t) Sm = ri (up2 Sm 0 0 0) r) : PD (RelP PL) mx mm S Sm t :=
  ⟨S, up2 Sm 0 0 0, r, h1, h2, hr.code hPL⟩
theorem RB.pos {PL : Nat → Nat → Nat → XS → XS → Prop} {n k z : Nat} {S Sm : XS} (h : RB n k z S Sm) (h1 : S 0 9 = 0) (h2 : Sm 0 29 = 0) : RelP PL S Sm := ⟨n, k, z, h, by rw [h1, h2], Or.inl h1⟩
