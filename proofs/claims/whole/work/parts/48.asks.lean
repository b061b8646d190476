/-! PURE PART: what is asked of places. -/
theorem clv_th (S : XS) (k : XS → Option RS) : clv (some (S, none)) k = some (S, none) := rfl
theorem cli_th (S : XS) (k : XS → Int32 → Option RS) : cli (some (S, none)) k = some (S, none) := rfl
theorem PW.bad {S Sm : XS} (hr : RelP PLx S Sm) {mx mm : MT} {t : List AV} {r : Int32} (h1 : mx (.inr 0 :: t) S = ri S r) (h2 : mm (.inr 0 :: t) Sm = ri (up2 Sm 0 0 0) r) : PW (RelP PLx) mx mm S Sm t :=
  ⟨S, up2 Sm 0 0 0, r, 0, h2, rfl, Or.inl ⟨rfl, h1⟩, hr.code PLx_ok⟩
theorem PW.good {S Sm : XS} (hr : RelP PLx S Sm) {mx mm : MT} {t : List AV} (h0 : S 0 9 = 0 → Sm 0 29 = 0 → mx (.inr 0 :: t) S = some (S, none) ∧ mm (.inr 0 :: t) Sm = ri (up2 (up2 Sm 0 0 0) 0 0 1) 0) (h1 : ∀ n k z t', S 0 9 = 1 → Sm 0 29 = 1 → J n k z z t' S (up2 (up2 Sm 0 0 0) 0 0 0) → JM n k t' S (up2 (up2 Sm 0 0 0) 0 0 0) → (∀ j, j < k → Sm 12 j = 0 → Sm 13 j ≠ 0) → RB n k z S Sm → ∃ r, mx (.inr 0 :: t) S = ri S r ∧ mm (.inr 0 :: t) Sm = ri (up2 (up2 Sm 0 0 0) 0 0 0) r) : PW (RelP PLx) mx mm S Sm t := by
  obtain ⟨n, k, z, hb, he, hp⟩ := id hr
  rcases hp with hp | ⟨hp, hpl⟩
  · obtain ⟨e1, e2⟩ := h0 hp (by rw [← he]; exact hp)
    exact ⟨S, _, 0, 1, e2, rfl, Or.inr ⟨rfl, e1⟩, (hr.code PLx_ok).code PLx_ok⟩
  · obtain ⟨t', j1, j2, j3⟩ := PLx_ok n k z S _ 0 (PLx_ok n k z S Sm 0 hpl)
    obtain ⟨r, e1, e2⟩ := h1 n k z t' hp (by rw [← he]; exact hp) j1 j2 j3 hb
    exact ⟨S, _, r, 0, e2, rfl, Or.inl ⟨rfl, e1⟩, (hr.code PLx_ok).code PLx_ok⟩
theorem q_thr0 {S : XS} (h : S 0 29 = 0) : m_X6_throwsNow [.inr 0] S = ri (up2 S 0 0 1) 1 := by
  have h' : (up2 S 0 0 1) 0 29 = 0 := h
  rw [u_X6_throwsNow, if_pos h, if_pos h']
theorem q_thr1 {S : XS} (h : S 0 29 = 1) : m_X6_throwsNow [.inr 0] S = ri (up2 S 0 0 0) 0 := by
  have h' : (up2 S 0 0 0) 0 29 = 1 := h
  rw [u_X6_throwsNow, if_neg (by rw [h]; decide), if_neg (by rw [h']; decide)]
theorem p_dem0 {S : XS} (h : S 0 9 = 0) : m_X5_demandPlaces [.inr 0] S = some (S, none) := by
  rw [u_X5_demandPlaces, if_pos h]
theorem p_dem1 {S : XS} (h : S 0 9 = 1) : m_X5_demandPlaces [.inr 0] S = rv S := by
  rw [u_X5_demandPlaces, if_neg (by rw [h]; decide)]
theorem s_at {S Sm : XS} (hr : RelP PLx S Sm) (a1 a2 : Int32) : PW (RelP PLx) m_X5_at m_X6_at S Sm [.inl a1, .inl a2] := by
  obtain ⟨n, k, z, hb, hp⟩ := id hr
  have hb' : RB n k z S (up2 Sm 0 0 0) := hb.of bsX.rf bsM.code
  have hX : m_X2_has [.inr 3, .inl a1] S = ri S (b01 (okM Sm k a1)) := p_has2 hb.2.2.1.1 hb.k80 (fun j hj => (hb.2.2.1.2.2.1.2 j).1) a1
  have hM : m_X6_isMark [.inr 0, .inl a1] (up2 Sm 0 0 0) = ri (up2 Sm 0 0 0) (b01 (okM Sm k a1)) := q_mark hb'.2.2.1.2.1 hb.k80 a1
  by_cases h1 : okM Sm k a1
  case neg =>
    refine PW.bad hr (r := -100001) ?_ ?_
    · simp only [u_X5_at, hX, b01_f h1, cli_ri, ↓reduceIte]
    · simp only [u_X6_at, hM, b01_f h1, cli_ri, ↓reduceIte]
  by_cases h2 : wi a2 0 6
  case neg =>
    refine PW.bad hr (r := -100001) ?_ ?_
    · simp only [u_X5_at, hX, b01_t h1, b01_f h2, cli_ri, ↓reduceIte, r10, p_within]
    · simp only [u_X6_at, hM, b01_t h1, b01_f h2, cli_ri, ↓reduceIte, r10, q_in]
  refine PW.good hr (fun e1 e2 => ?_) (fun n' k' z' t e1 e2 hJ hm hall hb1 => ?_)
  · have e2' : (up2 Sm 0 0 0) 0 29 = 0 := e2
    constructor
    · simp only [u_X5_at, hX, b01_t h1, b01_t h2, cli_ri, ↓reduceIte, r10, p_within, p_dem0 e1, clv_th]
    · simp only [u_X6_at, hM, b01_t h1, b01_t h2, cli_ri, ↓reduceIte, r10, q_in, q_thr0 e2']
  · have e2' : (up2 Sm 0 0 0) 0 29 = 1 := e2
    have hkk : k' = k := by
      have q := hb1.2.2.1.2.1
      rw [hb.2.2.1.2.1, nI_eq (by have := hb.k80; omega) (by have := hb1.k80; omega)] at q
      exact q.symm
    subst hkk
    obtain ⟨j, hj, rfl, hj0⟩ := id h1
    have h80 := hb.k80
    have hX2 := u_X5_at S (nI j) a2
    have hM2 := u_X6_at Sm (nI j) a2
    have hD0 : (up2 (up2 Sm 0 0 0) 0 0 0) 12 j = 0 := hj0
    have hD13 : (up2 (up2 Sm 0 0 0) 0 0 0) 13 j ≠ 0 := hall j hj hj0
    simp only [hX, b01_t h1, b01_t h2, cli_ri, ↓reduceIte, r10, p_within, p_dem1 e1, clv_rv] at hX2
    simp only [hM, b01_t h1, b01_t h2, cli_ri, ↓reduceIte, r10, q_in, q_thr1 e2'] at hM2
    generalize up2 (up2 Sm 0 0 0) 0 0 0 = D at *
    obtain ⟨b1, b2, b3, b4, b5, b6⟩ := hm.2.2.2 j hj hD0
    obtain ⟨b7, b8, b9, b10⟩ := b6 hD13
    simp only [gA_nI (show j < 80 by omega) (show 80 < 2 ^ 31 by decide), nI_clamp (show j < 2 ^ 31 by omega), u_X2_behind, cli_ri, b1, b2, b3, b7, b8, b9, (hJ.1.m hj).1.2.2.1] at hX2
    simp only [gA_nI (show j < 80 by omega) (show 80 < 2 ^ 31 by decide), nI_clamp (show j < 2 ^ 31 by omega), hJ.1.left hj, hJ.1.sideOf hj, cli_ri] at hM2
    have e5 : ∀ X : XS, (if D 15 j = 0 then (some (X, some (some (.inl 0))) : Option RS) else some (X, some (some (.inl 1)))) = ri X (D 15 j) := fun X => by
      rcases b4 with w | w <;> rw [w] <;> rfl
    simp only [e5] at hX2 hM2
    by_cases c0 : a2.toInt = 0
    · rw [if_pos c0] at hX2 hM2; exact ⟨_, hX2, hM2⟩
    rw [if_neg c0] at hX2 hM2
    by_cases c1 : a2.toInt = 1
    · rw [if_pos c1] at hX2 hM2; exact ⟨_, hX2, hM2⟩
    rw [if_neg c1] at hX2 hM2
    by_cases c2 : a2.toInt = 2
    · rw [if_pos c2] at hX2 hM2; exact ⟨_, hX2, hM2⟩
    rw [if_neg c2] at hX2 hM2
    by_cases c3 : a2.toInt = 3
    · rw [if_pos c3] at hX2 hM2; exact ⟨_, hX2, hM2⟩
    rw [if_neg c3] at hX2 hM2
    by_cases c4 : a2.toInt = 4
    · rw [if_pos c4] at hX2 hM2; exact ⟨_, hX2, hM2⟩
    rw [if_neg c4] at hX2 hM2
    by_cases c5 : a2.toInt = 5
    · rw [if_pos c5] at hX2 hM2; exact ⟨_, hX2, hM2⟩
    rw [if_neg c5] at hX2 hM2
    exact ⟨_, hX2, hM2⟩
theorem p_has4 (S : XS) (a : Int32) : m_X4_has [.inr 4, .inl a] S = ri S (b01 (okI (S 4 6) a)) := by
  rw [u_X4_has]
  split
  · rw [b01_f (fun q => q.1 (by assumption))]
  · split
    · rw [b01_f (fun q => q.2 (by assumption))]
    · rw [b01_t ⟨by assumption, by assumption⟩]
theorem RB.same {n k z n' k' z' : Nat} {S Sm : XS} (h : RB n k z S Sm) (h' : RB n' k' z' S Sm) : n' = n ∧ k' = k ∧ z' = z := by
  have a1 := h.n40
  have a2 := h.k80
  have a3 := h.z10
  have b1 := h'.n40
  have b2 := h'.k80
  have b3 := h'.z10
  refine ⟨?_, ?_, ?_⟩
  · have q := h'.1.2.1
    rw [h.1.2.1, nI_eq (by omega) (by omega)] at q
    exact q.symm
  · have q := h'.2.2.1.2.1
    rw [h.2.2.1.2.1, nI_eq (by omega) (by omega)] at q
    exact q.symm
  · have q := h'.2.2.2.2.1
    rw [h.2.2.2.2.1, nI_eq (by omega) (by omega)] at q
    exact q.symm
theorem s_slurAt {S Sm : XS} (hr : RelP PLx S Sm) (a1 a2 : Int32) : PW (RelP PLx) m_X5_slurAt m_X6_slurAt S Sm [.inl a1, .inl a2] := by
  obtain ⟨n, k, z, hb, hp⟩ := id hr
  have h10 := hb.z10
  have hX : m_X4_has [.inr 4, .inl a1] S = ri S (b01 (okI (nI z) a1)) := by rw [p_has4, hb.2.2.2.1]
  have hz : (up2 Sm 0 0 0) 0 20 = nI z := hb.2.2.2.2.1
  by_cases h1 : okI (nI z) a1
  case neg =>
    refine PW.bad hr (r := -100001) ?_ ?_
    · simp only [u_X5_slurAt, hX, b01_f h1, cli_ri, ↓reduceIte]
    · rw [u_X6_slurAt, hz]
      by_cases c : a1 < 0
      · rw [if_pos c]
      · by_cases c2 : nI z ≤ a1
        · rw [if_neg c, if_pos c2]
        · exact absurd ⟨c, c2⟩ h1
  obtain ⟨j, hj, rfl⟩ := (okI_iff (by omega)).mp h1
  by_cases h2 : wi a2 0 1
  case neg =>
    refine PW.bad hr (r := -100001) ?_ ?_
    · simp only [u_X5_slurAt, hX, b01_t h1, b01_f h2, cli_ri, ↓reduceIte, r10, p_within]
    · simp only [u_X6_slurAt, hz, if_neg h1.1, if_neg h1.2, b01_f h2, cli_ri, ↓reduceIte, q_in]
  refine PW.good hr (fun e1 e2 => ?_) (fun n' k' z' t e1 e2 hJ hm hall hb1 => ?_)
  · have e2' : (up2 Sm 0 0 0) 0 29 = 0 := e2
    constructor
    · simp only [u_X5_slurAt, hX, b01_t h1, b01_t h2, cli_ri, ↓reduceIte, r10, p_within, p_dem0 e1, clv_th]
    · simp only [u_X6_slurAt, hz, if_neg h1.1, if_neg h1.2, b01_t h2, cli_ri, ↓reduceIte, r10, q_in, q_thr0 e2']
  · have e2' : (up2 Sm 0 0 0) 0 29 = 1 := e2
    obtain ⟨rfl, rfl, rfl⟩ := hb.same hb1
    have hX2 := u_X5_slurAt S (nI j) a2
    have hM2 := u_X6_slurAt Sm (nI j) a2
    simp only [hX, b01_t h1, b01_t h2, cli_ri, ↓reduceIte, r10, p_within, p_dem1 e1, clv_rv] at hX2
    simp only [hz, if_neg h1.1, if_neg h1.2, b01_t h2, cli_ri, ↓reduceIte, r10, q_in, q_thr1 e2'] at hM2
    generalize up2 (up2 Sm 0 0 0) 0 0 0 = D at *
    obtain ⟨b1, b2⟩ := hJ.2.2.2.1 j hj
    simp only [gA_nI (show j < 10 by omega) (show 10 < 2 ^ 31 by decide), nI_clamp (show j < 2 ^ 31 by omega), b1, b2] at hX2
    simp only [gA_nI (show j < 10 by omega) (show 10 < 2 ^ 31 by decide), nI_clamp (show j < 2 ^ 31 by omega), Int32.add_zero] at hM2
    rcases wi01 h2 with w | w
    · subst w
      exact ⟨_, hX2, hM2⟩
    · subst w
      exact ⟨_, hX2, hM2⟩
theorem JM.t80 {n k t : Nat} {S Sm : XS} (h : JM n k t S Sm) (hk : k ≤ 80) : t ≤ 80 := by
  have := lc_le (S := Sm) k
  have := h.2.2.1
  omega
theorem s_skyline {S Sm : XS} (hr : RelP PLx S Sm) (a1 a2 : Int32) : PW (RelP PLx) m_X5_skyline m_X6_skyline S Sm [.inl a1, .inl a2] := by
  by_cases h1 : wi a1 0 101000
  case neg =>
    refine PW.bad hr (r := -100001) ?_ ?_
    · simp only [u_X5_skyline, p_within, b01_f h1, cli_ri, ↓reduceIte]
    · simp only [u_X6_skyline, q_in, b01_f h1, cli_ri, ↓reduceIte]
  by_cases h2 : sdP a2
  case neg =>
    refine PW.bad hr (r := -100001) ?_ ?_
    · simp only [u_X5_skyline, p_within, b01_t h1, b01_f h2, cli_ri, ↓reduceIte, r10, p_side]
    · simp only [u_X6_skyline, q_in, b01_t h1, b01_f h2, cli_ri, ↓reduceIte, r10, q_side]
  refine PW.good hr (fun e1 e2 => ?_) (fun n k z t e1 e2 hJ hm hall hb1 => ?_)
  · have e2' : (up2 Sm 0 0 0) 0 29 = 0 := e2
    constructor
    · simp only [u_X5_skyline, p_within, p_side, b01_t h1, b01_t h2, cli_ri, ↓reduceIte, r10, p_dem0 e1, clv_th]
    · simp only [u_X6_skyline, q_in, q_side, b01_t h1, b01_t h2, cli_ri, ↓reduceIte, r10, q_thr0 e2']
  · have e2' : (up2 Sm 0 0 0) 0 29 = 1 := e2
    have hX2 := u_X5_skyline S a1 a2
    have hM2 := u_X6_skyline Sm a1 a2
    simp only [p_within, p_side, b01_t h1, b01_t h2, cli_ri, ↓reduceIte, r10, p_dem1 e1, clv_rv] at hX2
    simp only [q_in, q_side, b01_t h1, b01_t h2, cli_ri, ↓reduceIte, r10, q_thr1 e2'] at hM2
    generalize up2 (up2 Sm 0 0 0) 0 0 0 = D at *
    obtain ⟨c, hc⟩ := SC_of h2
    obtain ⟨r, g1, g2, -⟩ := hJ.great (hm.t80 hb1.k80) hc a1 a1
    rw [p_out hc] at hX2
    rw [g2, cli_ri] at hM2
    refine ⟨r, ?_, hM2⟩
    rw [show (Sum.inr 0 :: [.inl a1, .inl a2] : List AV) = [.inr 0, .inl a1, .inl a2] from rfl, hX2]
    rcases hc with ⟨-, rfl⟩ | ⟨-, rfl⟩
    · rw [if_pos rfl, g1, cli_ri]
    · rw [if_neg (by decide), g1, cli_ri]
theorem s_row {S Sm : XS} (hr : RelP PLx S Sm) (a1 a2 : Int32) : PW (RelP PLx) m_X5_row m_X6_row S Sm [.inl a1, .inl a2] := by
  by_cases h1 : wi a1 0 9
  case neg =>
    refine PW.bad hr (r := -100001) ?_ ?_
    · simp only [u_X5_row, p_has1, b01_f h1, cli_ri, ↓reduceIte]
    · simp only [u_X6_row, q_in, b01_f h1, cli_ri, ↓reduceIte]
  by_cases h2 : sdP a2
  case neg =>
    refine PW.bad hr (r := -100001) ?_ ?_
    · simp only [u_X5_row, p_has1, b01_t h1, b01_f h2, cli_ri, ↓reduceIte, r10, p_side]
    · simp only [u_X6_row, q_in, b01_t h1, b01_f h2, cli_ri, ↓reduceIte, r10, q_side]
  refine PW.good hr (fun e1 e2 => ?_) (fun n k z t e1 e2 hJ hm hall hb1 => ?_)
  · have e2' : (up2 Sm 0 0 0) 0 29 = 0 := e2
    constructor
    · simp only [u_X5_row, p_has1, p_side, b01_t h1, b01_t h2, cli_ri, ↓reduceIte, r10, p_dem0 e1, clv_th]
    · simp only [u_X6_row, q_in, q_side, b01_t h1, b01_t h2, cli_ri, ↓reduceIte, r10, q_thr0 e2']
  · have e2' : (up2 Sm 0 0 0) 0 29 = 1 := e2
    obtain ⟨kd, hkd, rfl⟩ := (wi_nI (m := 9) rfl).mp h1
    have hX2 := u_X5_row S (nI kd) a2
    have hM2 := u_X6_row Sm (nI kd) a2
    simp only [p_has1, p_side, b01_t h1, b01_t h2, cli_ri, ↓reduceIte, r10, p_dem1 e1, clv_rv] at hX2
    simp only [q_in, q_side, b01_t h1, b01_t h2, cli_ri, ↓reduceIte, r10, q_thr1 e2'] at hM2
    generalize up2 (up2 Sm 0 0 0) 0 0 0 = D at *
    obtain ⟨c, hc⟩ := SC_of h2
    have hrow := hJ.2.2.2.2.2 a2 c kd hc (by omega)
    have e22 : 2 * nI kd = nI (2 * kd) := by rw [show (2 : Int32) = nI 2 from rfl, pk_mul]
    rw [p_out hc, gA_nI (show kd < 10 by omega) (by decide), gA_nI (show kd < 10 by omega) (by decide), nI_clamp (show kd < 2 ^ 31 by omega)] at hX2
    simp only [e22, Int32.add_zero, nI_1, gA_nI (show 2 * kd < 20 by omega) (show 20 < 2 ^ 31 by decide), gA_nI (show 2 * kd + 1 < 20 by omega) (show 20 < 2 ^ 31 by decide), nI_clamp (show 2 * kd < 2 ^ 31 by omega), nI_clamp (show 2 * kd + 1 < 2 ^ 31 by omega)] at hM2
    refine ⟨if D 22 (rwI a2 kd) = 0 then -100003 else D 23 (rwI a2 kd), ?_, ?_⟩
    · rw [← hrow]
      rw [show (Sum.inr 0 :: [.inl (nI kd), .inl a2] : List AV) = [.inr 0, .inl (nI kd), .inl a2] from rfl, hX2]
      rcases hc with ⟨-, rfl⟩ | ⟨-, rfl⟩
      · rw [if_pos rfl]
      · rw [if_neg (by decide)]
    · rw [show (Sum.inr 0 :: [.inl (nI kd), .inl a2] : List AV) = [.inr 0, .inl (nI kd), .inl a2] from rfl, hM2]
      rcases hc with ⟨rfl, rfl⟩ | ⟨rfl, rfl⟩
      · rw [if_neg (by decide), show rwI 1 kd = 2 * kd from rfl]
        split <;> rfl
      · rw [if_pos (by decide), show rwI (-1) kd = 2 * kd + 1 from rfl]
        split <;> rfl
/-- on an item's side; nearer there -/
def ONs (n : Nat) (S : XS) (a1 a2 : Int32) (j : Nat) : Prop := S 12 j = 0 ∧ S 8 j = a1 ∧ sd n S j = a2
def NR (n : Nat) (S : XS) (a1 a2 : Int32) (j i : Nat) : Prop := (S 14 i < S 14 j ∨ (S 14 i = S 14 j ∧ i < j)) ∧ ONs n S a1 a2 i
theorem p_isOn {S : XS} {i : Nat} (hi : i < 80) (a s : Int32) : m_X2_isOn [.inr 3, .inl (nI i), .inl a, .inl s] S = ri S (b01 (S 18 i = 0 ∧ S 14 i = a ∧ S 20 i = s)) := by
  rw [u_X2_isOn]
  simp only [gA_nI hi (show 80 < 2 ^ 31 by decide), nI_clamp (show i < 2 ^ 31 by omega)]
  by_cases c1 : S 18 i = 0
  · by_cases c2 : S 14 i = a
    · by_cases c3 : S 20 i = s
      · rw [if_pos c1, if_pos c2, if_pos c3, b01_t ⟨c1, c2, c3⟩]
      · rw [if_pos c1, if_pos c2, if_neg c3, b01_f (fun w => c3 w.2.2)]
    · rw [if_pos c1, if_neg c2, b01_f (fun w => c2 w.2.1)]
  · rw [if_neg c1, b01_f (fun w => c1 w.1)]
theorem JM.on {n k z t : Nat} {S D : XS} (h : RB n k z S D) (hm : JM n k t S D) {i : Nat} (hi : i < k) (a s : Int32) : m_X2_isOn [.inr 3, .inl (nI i), .inl a, .inl s] S = ri S (b01 (ONs n D a s i)) := by
  have h80 := h.k80
  rw [p_isOn (by omega)]
  refine congrArg (ri S) (b01_iff ?_)
  unfold ONs
  rw [(h.2.2.1.2.2.1.2 i).1, (h.m hi).1.1]
  refine and_congr_right (fun q => ?_)
  rw [(hm.2.2.2 i hi q).2.1]
theorem JM.near {n k z t : Nat} {S D : XS} (h : RB n k z S D) (hm : JM n k t S D) (hall : ∀ j, j < k → D 12 j = 0 → D 13 j ≠ 0) {j : Nat} (hj : j < k) (hj0 : D 12 j = 0) : m_X2_countNearer [.inr 3, .inl (nI j)] S = ri S (cq (NR n D (D 8 j) (sd n D j) j) k) := by
  have h80 := h.k80
  rw [u_X2_countNearer]
  refine lp0 (b := fun fl i (acc : Int32) => b_X2_countNearer_4 fl [(0, .inr 3), (1, .inl (nI j)), (2, .inl acc), (3, .inl (nI i))] [] S) (N := k) (by omega) (fun i acc => acc = cq (NR n D (D 8 j) (sd n D j) j) i) (fun r => r = ri S (cq (NR n D (D 8 j) (sd n D j) j) k)) rfl ?_ ?_
  · rintro fl i acc hi rfl
    left
    refine ⟨_, rfl, ?_⟩
    have w := hm.2.2.2 j hj hj0
    have e14 : S 14 j = D 8 j := (h.m hj).1.1
    simp only [u_X2_countNearer_4, h.2.2.1.1, if_neg (nI_ge hi (by omega)), gA_nI (show i < 80 by omega) (show 80 < 2 ^ 31 by decide), gA_nI (show j < 80 by omega) (show 80 < 2 ^ 31 by decide), nI_clamp (show i < 2 ^ 31 by omega), nI_clamp (show j < 2 ^ 31 by omega), u_X2_countNearer_52, ↓reduceIte, r10, e14, w.2.1, JM.on h hm hi, cli_ri, nI_1, nI_leI (show j < 2 ^ 31 by omega) (show i < 2 ^ 31 by omega), (w.2.2.2.2.2 (hall j hj hj0)).1]
    rw [cq]
    by_cases c0 : ONs n D (D 8 j) (sd n D j) i
    · rw [(( hm.2.2.2 i hi c0.1).2.2.2.2.2 (hall i hi c0.1)).1, b01_t c0]
      simp only [r10, ↓reduceIte]
      by_cases c1 : D 14 i < D 14 j
      · rw [if_pos c1, b01_t (show NR n D (D 8 j) (sd n D j) j i from ⟨Or.inl c1, c0⟩)]
      · rw [if_neg c1]
        by_cases c2 : D 14 i = D 14 j
        · rw [if_pos c2]
          by_cases c3 : j ≤ i
          · rw [if_pos c3, b01_f (fun w => w.1.elim c1 (fun v => by have := v.2; omega))]
          · rw [if_neg c3, b01_t (show NR n D (D 8 j) (sd n D j) j i from ⟨Or.inr ⟨c2, by omega⟩, c0⟩)]
        · rw [if_neg c2, b01_f (fun w => w.1.elim c1 (fun v => c2 v.1))]
    · rw [b01_f c0, b01_f (fun w => c0 w.2)]
      simp only [↓reduceIte, ite_self]
  · rintro fl acc rfl
    simp only [u_X2_countNearer_4, h.2.2.1.1, if_pos (nI_le (Nat.le_refl k) (show k < 2 ^ 31 by omega))]
theorem q_near {n k z : Nat} {S D : XS} (h : RB n k z S D) (k35 : BT) (a1 a2 a3 : Int32) {j : Nat} (hj : j < k) : b_X6_order_84 k35 fu [(0, .inr 0), (1, .inl a1), (2, .inl a2), (3, .inl a3), (4, .inl (nI j)), (5, .inl 0), (6, .inl 0)] [] D = if cq (NR n D a1 a2 j) k = a3 then ri D (nI j) else k35 [(0, .inr 0), (1, .inl a1), (2, .inl a2), (3, .inl a3), (4, .inl (nI (j + 1)))] [] D := by
  have h80 := h.k80
  refine lp0 (b := fun fl i (acc : Int32) => b_X6_order_84 k35 fl [(0, .inr 0), (1, .inl a1), (2, .inl a2), (3, .inl a3), (4, .inl (nI j)), (5, .inl acc), (6, .inl (nI i))] [] D) (N := k) (by omega) (fun i acc => acc = cq (NR n D a1 a2 j) i) (fun r => r = if cq (NR n D a1 a2 j) k = a3 then ri D (nI j) else k35 [(0, .inr 0), (1, .inl a1), (2, .inl a2), (3, .inl a3), (4, .inl (nI (j + 1)))] [] D) rfl ?_ ?_
  · rintro fl i acc hi rfl
    left
    refine ⟨_, rfl, ?_⟩
    simp only [u_X6_order_84, h.2.2.1.2.1, if_neg (nI_ge hi (by omega)), gA_nI (show i < 80 by omega) (show 80 < 2 ^ 31 by decide), gA_nI (show j < 80 by omega) (show 80 < 2 ^ 31 by decide), nI_clamp (show i < 2 ^ 31 by omega), nI_clamp (show j < 2 ^ 31 by omega), u_X6_order_129, ↓reduceIte, r10, h.sideOf hi, cli_ri, nI_1, nI_leI (show j < 2 ^ 31 by omega) (show i < 2 ^ 31 by omega)]
    rw [cq]
    by_cases c0 : ONs n D a1 a2 i
    · simp only [if_pos c0.1, if_pos c0.2.1, if_pos c0.2.2]
      by_cases c1 : D 14 i < D 14 j
      · rw [if_pos c1, b01_t (show NR n D a1 a2 j i from ⟨Or.inl c1, c0⟩)]
      · rw [if_neg c1]
        by_cases c2 : D 14 i = D 14 j
        · rw [if_pos c2]
          by_cases c3 : j ≤ i
          · rw [if_pos c3, b01_f (fun w => w.1.elim c1 (fun v => by have := v.2; omega))]
          · rw [if_neg c3, b01_t (show NR n D a1 a2 j i from ⟨Or.inr ⟨c2, by omega⟩, c0⟩)]
        · rw [if_neg c2, b01_f (fun w => w.1.elim c1 (fun v => c2 v.1))]
    · rw [b01_f (fun w => c0 w.2)]
      by_cases d1 : D 12 i = 0
      · by_cases d2 : D 8 i = a1
        · by_cases d3 : sd n D i = a2
          · exact absurd ⟨d1, d2, d3⟩ c0
          · rw [if_pos d1, if_pos d2, if_neg d3]
        · rw [if_pos d1, if_neg d2]
      · rw [if_neg d1]
  · rintro fl acc rfl
    simp only [u_X6_order_84, h.2.2.1.2.1, if_pos (nI_le (Nat.le_refl k) (show k < 2 ^ 31 by omega)), nI_1]
theorem s_order {S Sm : XS} (hr : RelP PLx S Sm) (a1 a2 a3 : Int32) : PW (RelP PLx) m_X5_order m_X6_order S Sm [.inl a1, .inl a2, .inl a3] := by
  obtain ⟨n, k, z, hb, hp⟩ := id hr
  have h40 := hb.n40
  have hX : m_X0_has [.inr 1, .inl a1] S = ri S (b01 (okI (nI n) a1)) := by rw [p_has0, hb.1.1]
  have hM : m_X6_isItem [.inr 0, .inl a1] (up2 Sm 0 0 0) = ri (up2 Sm 0 0 0) (b01 (okI (nI n) a1)) := by
    have := q_item (up2 Sm 0 0 0) a1
    rw [show (up2 Sm 0 0 0) 0 1 = nI n from hb.1.2.1] at this
    exact this
  by_cases h1 : okI (nI n) a1
  case neg =>
    refine PW.bad hr (r := -100001) ?_ ?_
    · simp only [u_X5_order, hX, b01_f h1, cli_ri, ↓reduceIte]
    · simp only [u_X6_order, hM, b01_f h1, cli_ri, ↓reduceIte]
  by_cases h2 : sdP a2
  case neg =>
    refine PW.bad hr (r := -100001) ?_ ?_
    · simp only [u_X5_order, hX, b01_t h1, b01_f h2, cli_ri, ↓reduceIte, r10, p_side]
    · simp only [u_X6_order, hM, b01_t h1, b01_f h2, cli_ri, ↓reduceIte, r10, q_side]
  refine PW.good hr (fun e1 e2 => ?_) (fun n' k' z' t e1 e2 hJ hm hall hb1 => ?_)
  · have e2' : (up2 Sm 0 0 0) 0 29 = 0 := e2
    constructor
    · simp only [u_X5_order, hX, p_side, b01_t h1, b01_t h2, cli_ri, ↓reduceIte, r10, p_dem0 e1, clv_th]
    · simp only [u_X6_order, hM, q_side, b01_t h1, b01_t h2, cli_ri, ↓reduceIte, r10, q_thr0 e2']
  · have e2' : (up2 Sm 0 0 0) 0 29 = 1 := e2
    obtain ⟨rfl, rfl, rfl⟩ := hb.same hb1
    have h80 := hb.k80
    have hall' : ∀ j, j < k' → (up2 (up2 Sm 0 0 0) 0 0 0) 12 j = 0 → (up2 (up2 Sm 0 0 0) 0 0 0) 13 j ≠ 0 := hall
    have hX2 := u_X5_order S a1 a2 a3
    have hM2 := u_X6_order Sm a1 a2 a3
    simp only [hX, p_side, b01_t h1, b01_t h2, cli_ri, ↓reduceIte, r10, p_dem1 e1, clv_rv] at hX2
    simp only [hM, q_side, b01_t h1, b01_t h2, cli_ri, ↓reduceIte, r10, q_thr1 e2'] at hM2
    generalize up2 (up2 Sm 0 0 0) 0 0 0 = D at *
    have hx : ∃ r, b_X5_order_28 fu [(0, .inr 0), (1, .inl a1), (2, .inl a2), (3, .inl a3), (4, .inl 0)] [] S = ri S r ∧ ((∃ j, j < k' ∧ (ONs n' D a1 a2 j ∧ cq (NR n' D a1 a2 j) k' = a3) ∧ (∀ i, i < j → ¬ (ONs n' D a1 a2 i ∧ cq (NR n' D a1 a2 i) k' = a3)) ∧ r = nI j) ∨ ((∀ j, j < k' → ¬ (ONs n' D a1 a2 j ∧ cq (NR n' D a1 a2 j) k' = a3)) ∧ r = -100003)) := by
      refine lp0 (b := fun fl i (_ : Unit) => b_X5_order_28 fl [(0, .inr 0), (1, .inl a1), (2, .inl a2), (3, .inl a3), (4, .inl (nI i))] [] S) (N := k') (by omega) (s := ()) (fun i _ => ∀ j, j < i → ¬ (ONs n' D a1 a2 j ∧ cq (NR n' D a1 a2 j) k' = a3)) (fun o => ∃ r, o = ri S r ∧ ((∃ j, j < k' ∧ (ONs n' D a1 a2 j ∧ cq (NR n' D a1 a2 j) k' = a3) ∧ (∀ i, i < j → ¬ (ONs n' D a1 a2 i ∧ cq (NR n' D a1 a2 i) k' = a3)) ∧ r = nI j) ∨ ((∀ j, j < k' → ¬ (ONs n' D a1 a2 j ∧ cq (NR n' D a1 a2 j) k' = a3)) ∧ r = -100003))) (fun j q => absurd q (by omega)) ?_ ?_
      · intro fl i _ hi hI
        have hs : ¬ (ONs n' D a1 a2 i ∧ cq (NR n' D a1 a2 i) k' = a3) → ∀ j, j < i + 1 → ¬ (ONs n' D a1 a2 j ∧ cq (NR n' D a1 a2 j) k' = a3) := fun q j hj => by
          by_cases e : j = i
          · rw [e]; exact q
          · exact hI j (by omega)
        simp only [u_X5_order_28, hJ.1.2.2.1.1, if_neg (nI_ge hi (by omega)), JM.on hJ.1 hm hi, cli_ri, nI_1]
        by_cases c0 : ONs n' D a1 a2 i
        · have en := JM.near hJ.1 hm hall' hi c0.1
          rw [c0.2.1, c0.2.2] at en
          rw [b01_t c0, if_neg (by decide), en, cli_ri]
          by_cases c1 : cq (NR n' D a1 a2 i) k' = a3
          · right
            rw [if_pos c1]
            exact ⟨_, rfl, Or.inl ⟨i, hi, ⟨c0, c1⟩, hI, rfl⟩⟩
          · left
            rw [if_neg c1]
            exact ⟨(), hs (fun q => c1 q.2), rfl⟩
        · left
          rw [b01_f c0, if_pos rfl]
          exact ⟨(), hs (fun q => c0 q.1), rfl⟩
      · intro fl _ hI
        simp only [u_X5_order_28, hJ.1.2.2.1.1, if_pos (nI_le (Nat.le_refl k') (show k' < 2 ^ 31 by omega))]
        exact ⟨_, rfl, Or.inr ⟨hI, rfl⟩⟩
    have hy : ∃ r, b_X6_order_35 fu [(0, .inr 0), (1, .inl a1), (2, .inl a2), (3, .inl a3), (4, .inl 0)] [] D = ri D r ∧ ((∃ j, j < k' ∧ (ONs n' D a1 a2 j ∧ cq (NR n' D a1 a2 j) k' = a3) ∧ (∀ i, i < j → ¬ (ONs n' D a1 a2 i ∧ cq (NR n' D a1 a2 i) k' = a3)) ∧ r = nI j) ∨ ((∀ j, j < k' → ¬ (ONs n' D a1 a2 j ∧ cq (NR n' D a1 a2 j) k' = a3)) ∧ r = -100003)) := by
      refine lp0 (b := fun fl i (_ : Unit) => b_X6_order_35 fl [(0, .inr 0), (1, .inl a1), (2, .inl a2), (3, .inl a3), (4, .inl (nI i))] [] D) (N := k') (by omega) (s := ()) (fun i _ => ∀ j, j < i → ¬ (ONs n' D a1 a2 j ∧ cq (NR n' D a1 a2 j) k' = a3)) (fun o => ∃ r, o = ri D r ∧ ((∃ j, j < k' ∧ (ONs n' D a1 a2 j ∧ cq (NR n' D a1 a2 j) k' = a3) ∧ (∀ i, i < j → ¬ (ONs n' D a1 a2 i ∧ cq (NR n' D a1 a2 i) k' = a3)) ∧ r = nI j) ∨ ((∀ j, j < k' → ¬ (ONs n' D a1 a2 j ∧ cq (NR n' D a1 a2 j) k' = a3)) ∧ r = -100003))) (fun j q => absurd q (by omega)) ?_ ?_
      · intro fl i _ hi hI
        have hs : ¬ (ONs n' D a1 a2 i ∧ cq (NR n' D a1 a2 i) k' = a3) → ∀ j, j < i + 1 → ¬ (ONs n' D a1 a2 j ∧ cq (NR n' D a1 a2 j) k' = a3) := fun q j hj => by
          by_cases e : j = i
          · rw [e]; exact q
          · exact hI j (by omega)
        simp only [u_X6_order_35, hJ.1.2.2.1.2.1, if_neg (nI_ge hi (by omega)), gA_nI (show i < 80 by omega) (show 80 < 2 ^ 31 by decide), nI_clamp (show i < 2 ^ 31 by omega), hJ.1.sideOf hi, cli_ri, nI_1, q_near hJ.1 _ a1 a2 a3 hi]
        by_cases d1 : D 12 i = 0
        · by_cases d2 : D 8 i = a1
          · by_cases d3 : sd n' D i = a2
            · rw [if_pos d1, if_pos d2, if_pos d3]
              by_cases c1 : cq (NR n' D a1 a2 i) k' = a3
              · right
                rw [if_pos c1]
                exact ⟨_, rfl, Or.inl ⟨i, hi, ⟨⟨d1, d2, d3⟩, c1⟩, hI, rfl⟩⟩
              · left
                rw [if_neg c1]
                exact ⟨(), hs (fun q => c1 q.2), rfl⟩
            · left
              rw [if_pos d1, if_pos d2, if_neg d3]
              exact ⟨(), hs (fun q => d3 q.1.2.2), rfl⟩
          · left
            rw [if_pos d1, if_neg d2]
            exact ⟨(), hs (fun q => d2 q.1.2.1), rfl⟩
        · left
          rw [if_neg d1]
          exact ⟨(), hs (fun q => d1 q.1.1), rfl⟩
      · intro fl _ hI
        simp only [u_X6_order_35, hJ.1.2.2.1.2.1, if_pos (nI_le (Nat.le_refl k') (show k' < 2 ^ 31 by omega))]
        exact ⟨_, rfl, Or.inr ⟨hI, rfl⟩⟩
    obtain ⟨r, x1, x2⟩ := hx
    obtain ⟨r', y1, y2⟩ := hy
    rw [x1] at hX2
    rw [y1] at hM2
    have e : r' = r := by
      rcases x2 with ⟨j, j1, j2, j3, j4⟩ | ⟨j1, j2⟩ <;> rcases y2 with ⟨i, i1, i2, i3, i4⟩ | ⟨i1, i2⟩
      · have e : i = j := by
          rcases Nat.lt_trichotomy i j with q | q | q
          · exact absurd i2 (j3 i q)
          · exact q
          · exact absurd j2 (i3 j q)
        rw [j4, i4, e]
      · exact absurd j2 (i1 j j1)
      · exact absurd i2 (j1 i i1)
      · rw [j2, i2]
    subst e
    exact ⟨_, hX2, hM2⟩
theorem s_meets {S Sm : XS} (hr : RelP PLx S Sm) (a1 a2 : Int32) : PW (RelP PLx) m_X5_meets m_X6_meets S Sm [.inl a1, .inl a2] := by
  obtain ⟨n, k, z, hb, hp⟩ := id hr
  have hb' : RB n k z S (up2 Sm 0 0 0) := hb.of bsX.rf bsM.code
  have hX : ∀ a, m_X2_has [.inr 3, .inl a] S = ri S (b01 (okM Sm k a)) := fun a => p_has2 hb.2.2.1.1 hb.k80 (fun j hj => (hb.2.2.1.2.2.1.2 j).1) a
  have hM : ∀ a, m_X6_isMark [.inr 0, .inl a] (up2 Sm 0 0 0) = ri (up2 Sm 0 0 0) (b01 (okM Sm k a)) := fun a => q_mark hb'.2.2.1.2.1 hb.k80 a
  by_cases h1 : okM Sm k a1
  case neg =>
    refine PW.bad hr (r := -100001) ?_ ?_
    · simp only [u_X5_meets, hX, b01_f h1, cli_ri, ↓reduceIte]
    · simp only [u_X6_meets, hM, b01_f h1, cli_ri, ↓reduceIte]
  by_cases h2 : okM Sm k a2
  case neg =>
    refine PW.bad hr (r := -100001) ?_ ?_
    · simp only [u_X5_meets, hX, b01_t h1, b01_f h2, cli_ri, ↓reduceIte, r10]
    · simp only [u_X6_meets, hM, b01_t h1, b01_f h2, cli_ri, ↓reduceIte, r10]
  by_cases h3 : a1 = a2
  case pos =>
    refine PW.bad hr (r := -100001) ?_ ?_
    · simp only [u_X5_meets, hX, b01_t h1, b01_t h2, cli_ri, ↓reduceIte, r10, if_pos h3]
    · simp only [u_X6_meets, hM, b01_t h1, b01_t h2, cli_ri, ↓reduceIte, r10, if_pos h3]
  refine PW.good hr (fun e1 e2 => ?_) (fun n' k' z' t e1 e2 hJ hm hall hb1 => ?_)
  · have e2' : (up2 Sm 0 0 0) 0 29 = 0 := e2
    constructor
    · simp only [u_X5_meets, hX, b01_t h1, b01_t h2, cli_ri, ↓reduceIte, r10, if_neg h3, p_dem0 e1, clv_th]
    · simp only [u_X6_meets, hM, b01_t h1, b01_t h2, cli_ri, ↓reduceIte, r10, if_neg h3, q_thr0 e2']
  · have e2' : (up2 Sm 0 0 0) 0 29 = 1 := e2
    obtain ⟨rfl, rfl, rfl⟩ := hb.same hb1
    have h80 := hb.k80
    obtain ⟨i, hi, rfl, hi0⟩ := id h1
    obtain ⟨j, hj, rfl, hj0⟩ := id h2
    have hX2 := u_X5_meets S (nI i) (nI j)
    have hM2 := u_X6_meets Sm (nI i) (nI j)
    have hi0' : (up2 (up2 Sm 0 0 0) 0 0 0) 12 i = 0 := hi0
    have hi13 : (up2 (up2 Sm 0 0 0) 0 0 0) 13 i ≠ 0 := hall i hi hi0
    have hj0' : (up2 (up2 Sm 0 0 0) 0 0 0) 12 j = 0 := hj0
    have hj13 : (up2 (up2 Sm 0 0 0) 0 0 0) 13 j ≠ 0 := hall j hj hj0
    simp only [hX, b01_t h1, b01_t h2, cli_ri, ↓reduceIte, r10, if_neg h3, p_dem1 e1, clv_rv] at hX2
    simp only [hM, b01_t h1, b01_t h2, cli_ri, ↓reduceIte, r10, if_neg h3, q_thr1 e2'] at hM2
    generalize up2 (up2 Sm 0 0 0) 0 0 0 = D at *
    obtain ⟨b1, b2, b3, b4, b5, b6⟩ := hm.2.2.2 i hi hi0'
    obtain ⟨b7, b8, b9, b10⟩ := b6 hi13
    obtain ⟨d1, d2, d3, d4, d5, d6⟩ := hm.2.2.2 j hj hj0'
    obtain ⟨d7, d8, d9, d10⟩ := d6 hj13
    simp only [gA_nI (show i < 80 by omega) (show 80 < 2 ^ 31 by decide), gA_nI (show j < 80 by omega) (show 80 < 2 ^ 31 by decide), nI_clamp (show i < 2 ^ 31 by omega), nI_clamp (show j < 2 ^ 31 by omega), b2, b7, b8, d2, d7, d8, JM.share hJ.1 hm hi hi0' hj hj0', cli_ri] at hX2
    simp only [gA_nI (show i < 80 by omega) (show 80 < 2 ^ 31 by decide), gA_nI (show j < 80 by omega) (show 80 < 2 ^ 31 by decide), nI_clamp (show i < 2 ^ 31 by omega), nI_clamp (show j < 2 ^ 31 by omega), hJ.1.sideOf hi, hJ.1.sideOf hj, cli_ri, hJ.1.cover hi hj] at hM2
    by_cases c1 : D 14 j + D 11 j ≤ D 14 i
    · rw [if_pos c1] at hX2 hM2
      by_cases c2 : sd n' D i = sd n' D j
      · rw [if_pos c2] at hX2 hM2
        by_cases c3 : shr D i j
        · rw [b01_t c3] at hX2 hM2; exact ⟨_, hX2, hM2⟩
        · rw [b01_f c3] at hX2 hM2; exact ⟨_, hX2, hM2⟩
      · rw [if_neg c2] at hX2 hM2; exact ⟨_, hX2, hM2⟩
    · rw [if_neg c1] at hX2 hM2
      by_cases c1' : D 14 i + D 11 i ≤ D 14 j
      · rw [if_pos c1'] at hX2 hM2
        by_cases c2 : sd n' D i = sd n' D j
        · rw [if_pos c2] at hX2 hM2
          by_cases c3 : shr D i j
          · rw [b01_t c3] at hX2 hM2; exact ⟨_, hX2, hM2⟩
          · rw [b01_f c3] at hX2 hM2; exact ⟨_, hX2, hM2⟩
        · rw [if_neg c2] at hX2 hM2; exact ⟨_, hX2, hM2⟩
      · rw [if_neg c1'] at hX2 hM2
        by_cases c2 : sd n' D i = sd n' D j
        · rw [if_pos c2] at hX2 hM2
          by_cases c3 : shr D i j
          · rw [b01_t c3] at hX2 hM2; exact ⟨_, hX2, hM2⟩
          · rw [b01_f c3] at hX2 hM2; exact ⟨_, hX2, hM2⟩
        · rw [if_neg c2] at hX2 hM2; exact ⟨_, hX2, hM2⟩
