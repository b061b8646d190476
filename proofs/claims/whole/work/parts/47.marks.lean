/-! PURE PART: all marks are laid; place. -/
theorem q_pick {n k z : Nat} {S Sm : XS} (h : RB n k z S Sm) (k146 : BT) (a1 : Int32) : (∃ m, m < k ∧ (Sm 12 m = 0 ∧ Sm 13 m = 0) ∧ (∀ j, j < k → Sm 12 j = 0 ∧ Sm 13 j = 0 → j = m ∨ ahd Sm m j) ∧ b_X6_place_156 k146 fu [(0, .inr 0), (1, .inl a1), (3, .inl (-100003)), (4, .inl 0)] [] Sm = b_X6_place_221 k146 [(0, .inr 0), (1, .inl a1), (3, .inl (nI m))] [.inl 1] Sm) ∨ ((∀ j, j < k → ¬ (Sm 12 j = 0 ∧ Sm 13 j = 0)) ∧ b_X6_place_156 k146 fu [(0, .inr 0), (1, .inl a1), (3, .inl (-100003)), (4, .inl 0)] [] Sm = b_X6_place_221 k146 [(0, .inr 0), (1, .inl a1), (3, .inl (-100003))] [.inl 0] Sm) := by
  have h80 := h.k80
  refine lp0 (b := fun fl i (o : Option Nat) => b_X6_place_156 k146 fl [(0, .inr 0), (1, .inl a1), (3, .inl (oI (-100003) o)), (4, .inl (nI i))] [] Sm) (N := k) (by omega) (s := none) (fun i o => (o = none ∧ ∀ j, j < i → ¬ (Sm 12 j = 0 ∧ Sm 13 j = 0)) ∨ (∃ m, o = some m ∧ m < i ∧ (Sm 12 m = 0 ∧ Sm 13 m = 0) ∧ ∀ j, j < i → Sm 12 j = 0 ∧ Sm 13 j = 0 → j = m ∨ ahd Sm m j)) (fun o => (∃ m, m < k ∧ (Sm 12 m = 0 ∧ Sm 13 m = 0) ∧ (∀ j, j < k → Sm 12 j = 0 ∧ Sm 13 j = 0 → j = m ∨ ahd Sm m j) ∧ o = b_X6_place_221 k146 [(0, .inr 0), (1, .inl a1), (3, .inl (nI m))] [.inl 1] Sm) ∨ ((∀ j, j < k → ¬ (Sm 12 j = 0 ∧ Sm 13 j = 0)) ∧ o = b_X6_place_221 k146 [(0, .inr 0), (1, .inl a1), (3, .inl (-100003))] [.inl 0] Sm)) (Or.inl ⟨rfl, fun j q => absurd q (by omega)⟩) ?_ ?_
  · intro fl i o hi hI
    left
    have e9 : Sm 0 9 = nI k := h.2.2.1.2.1
    by_cases c : Sm 12 i = 0 ∧ Sm 13 i = 0
    · rcases hI with ⟨rfl, hI⟩ | ⟨m, rfl, h1, h2, h3⟩
      · refine ⟨some i, Or.inr ⟨i, rfl, by omega, c, fun j hj hu => ?_⟩, ?_⟩
        · by_cases e : j = i
          · exact Or.inl e
          · exact absurd hu (hI j (by omega))
        · simp only [u_X6_place_156, e9, if_neg (nI_ge hi (by omega)), gA_nI (show i < 80 by omega) (show 80 < 2 ^ 31 by decide), nI_clamp (show i < 2 ^ 31 by omega), if_pos c.1, if_pos c.2, oI, ↓reduceIte, nI_1]
      · have hne : ¬ nI m = -100003 := fun q => nI_pos (show m < 2 ^ 31 by omega) (by rw [q]; decide)
        by_cases c2 : ahd Sm i m
        · refine ⟨some i, Or.inr ⟨i, rfl, by omega, c, fun j hj hu => ?_⟩, ?_⟩
          · by_cases e : j = i
            · exact Or.inl e
            · rcases h3 j (by omega) hu with e' | e'
              · rw [e']
                exact Or.inr c2
              · exact Or.inr (ahd_tr c2 e')
          · simp only [u_X6_place_156, e9, if_neg (nI_ge hi (by omega)), gA_nI (show i < 80 by omega) (show 80 < 2 ^ 31 by decide), nI_clamp (show i < 2 ^ 31 by omega), if_pos c.1, if_pos c.2, oI, if_neg hne, h.isAhead hi (show m < k by omega), cli_ri, b01_t c2, r10, ↓reduceIte, nI_1]
        · refine ⟨some m, Or.inr ⟨m, rfl, by omega, h2, fun j hj hu => ?_⟩, ?_⟩
          · by_cases e : j = i
            · subst e
              by_cases e2 : j = m
              · exact Or.inl e2
              · exact Or.inr (ahd_tot c2 e2)
            · exact h3 j (by omega) hu
          · simp only [u_X6_place_156, e9, if_neg (nI_ge hi (by omega)), gA_nI (show i < 80 by omega) (show 80 < 2 ^ 31 by decide), nI_clamp (show i < 2 ^ 31 by omega), if_pos c.1, if_pos c.2, oI, if_neg hne, h.isAhead hi (show m < k by omega), cli_ri, b01_f c2, ↓reduceIte, nI_1]
    · refine ⟨o, ?_, ?_⟩
      · rcases hI with ⟨rfl, hI⟩ | ⟨m, rfl, h1, h2, h3⟩
        · refine Or.inl ⟨rfl, fun j hj => ?_⟩
          by_cases e : j = i
          · rw [e]
            exact c
          · exact hI j (by omega)
        · refine Or.inr ⟨m, rfl, by omega, h2, fun j hj hu => ?_⟩
          by_cases e : j = i
          · rw [e] at hu
            exact absurd hu c
          · exact h3 j (by omega) hu
      · by_cases c1 : Sm 12 i = 0
        · have c2 : ¬ Sm 13 i = 0 := fun q => c ⟨c1, q⟩
          simp only [u_X6_place_156, e9, if_neg (nI_ge hi (by omega)), gA_nI (show i < 80 by omega) (show 80 < 2 ^ 31 by decide), nI_clamp (show i < 2 ^ 31 by omega), if_pos c1, if_neg c2, nI_1]
        · simp only [u_X6_place_156, e9, if_neg (nI_ge hi (by omega)), gA_nI (show i < 80 by omega) (show 80 < 2 ^ 31 by decide), nI_clamp (show i < 2 ^ 31 by omega), if_neg c1, nI_1]
  · intro fl o hI
    have e9 : Sm 0 9 = nI k := h.2.2.1.2.1
    rcases hI with ⟨rfl, hI⟩ | ⟨m, rfl, h1, h2, h3⟩
    · right
      refine ⟨hI, ?_⟩
      simp only [u_X6_place_156, e9, if_pos (nI_le (Nat.le_refl k) (show k < 2 ^ 31 by omega)), oI, ↓reduceIte]
    · left
      have hne : ¬ nI m = -100003 := fun q => nI_pos (show m < 2 ^ 31 by omega) (by rw [q]; decide)
      refine ⟨m, h1, h2, h3, ?_⟩
      simp only [u_X6_place_156, e9, if_pos (nI_le (Nat.le_refl k) (show k < 2 ^ 31 by omega)), oI, if_neg hne]
theorem KK.pick {n k z t : Nat} {Q P R : List Nat} {m : Nat} {S Sm : XS} (h : KK n k z Q t S Sm) (hQ : Q = P ++ m :: R) (hP : ∀ j, j ∈ P → Sm 13 j ≠ 0) (hm13 : Sm 13 m = 0) (f : Nat) (a : Int32) : b_X6_place_146 (f + 1) [(0, .inr 0), (1, .inl a), (2, .inl 1)] [] Sm = b_X6_place_221 (b_X6_place_146 f) [(0, .inr 0), (1, .inl a), (3, .inl (nI m))] [.inl 1] Sm := by
  obtain ⟨hm, hm0, -⟩ := h.mid hQ
  rw [u_X6_place_146, if_neg (by decide)]
  rcases q_pick h.1.1 (b_X6_place_146 f) a with ⟨m', h1, h2, h3, h4⟩ | ⟨h1, -⟩
  · have hs := h.2.2.2.1
    have hm' : m' ∈ Q := (h.2.2.2.2.1 m').mpr ⟨h1, h2.1⟩
    rw [hQ, List.mem_append] at hm'
    rw [hQ, List.pairwise_append, List.pairwise_cons] at hs
    have e : m' = m := by
      rcases hm' with q | q
      · exact absurd h2.2 (hP m' q)
      · rcases List.mem_cons.mp q with e | q
        · exact e
        · have k1 := hs.2.1.1 m' q
          rcases h3 m hm ⟨hm0, hm13⟩ with e | k2
          · exact e.symm
          · exact absurd k1 (ahd_as k2)
    rw [h4, e]
  · exact absurd ⟨hm0, hm13⟩ (h1 m hm)
noncomputable def pfl (n kd : Nat) (s : Int32) (Sm : XS) (j : Nat) : Bool := @decide (mK Sm j = kd ∧ sd n Sm j = s) (Classical.propDecidable _)
theorem PP_pf {n kd : Nat} {s : Int32} {Sm : XS} : PP n kd s (pfl n kd s Sm) Sm := fun j => @decide_eq_true_iff _ (Classical.propDecidable _)
theorem KK.marks {n k z : Nat} {Q : List Nat} : ∀ (R P : List Nat) (fl f t : Nat) (S Sm : XS) (a : Int32), Q = P ++ R → R.length < fl → R.length + 2 ≤ f → KK n k z Q t S Sm → HR n k Sm → (∀ j, j ∈ P → Sm 13 j ≠ 0) → (∀ j, j ∈ R → mG Sm j 4 ≠ 1 → Sm 13 j = 0) → (∀ i j, i ∈ Q → j ∈ Q → mK Sm i = mK Sm j → mG Sm i 4 = 1 → Sm 13 i ≠ 0 → Sm 13 j ≠ 0) → (∀ j, j ∈ Q → Sm 13 j = 0 → Sm 15 j = 0) → ∃ S' Sm' t' a', b_X5_layMarks_9 fl [(0, .inr 0), (1, .inl a), (2, .inl (nI P.length))] [] S = ri S' a' ∧ b_X6_place_146 f [(0, .inr 0), (1, .inl a), (2, .inl 1)] [] Sm = ri (up2 Sm' 0 29 1) a' ∧ KK n k z Q t' S' Sm' ∧ (∀ j, j ∈ Q → Sm' 13 j ≠ 0) := by
  intro R
  induction R with
  | nil =>
    intro P fl f t S Sm a hQ h1 h2 h hR hP hB hC hD
    obtain ⟨fl, rfl⟩ : ∃ q, fl = q + 1 := ⟨fl - 1, by omega⟩
    obtain ⟨f, rfl⟩ : ∃ q, f = q + 2 := ⟨f - 2, by rw [List.length_nil] at h2; omega⟩
    rw [List.append_nil] at hQ
    subst hQ
    have hk80 := h.1.1.k80
    have hl := h.2.2.2.2.2
    refine ⟨S, Sm, t, a, by rw [u_X5_layMarks_9, h.2.2.1.1, if_pos (nI_le (Nat.le_refl _) (by omega))], ?_, h, hP⟩
    rw [u_X6_place_146, if_neg (by decide)]
    rcases q_pick h.1.1 (b_X6_place_146 (f + 1)) a with ⟨m', w1, w2, -⟩ | ⟨-, w⟩
    · exact absurd w2.2 (hP m' ((h.2.2.2.2.1 m').mpr ⟨w1, w2.1⟩))
    · rw [w, u_X6_place_221, if_pos rfl, if_pos rfl, u_X6_place_146, if_pos rfl]
  | cons m R ih =>
    intro P fl f t S Sm a hQ h1 h2 h hR hP hB hC hD
    rw [List.length_cons] at h1 h2
    obtain ⟨fl, rfl⟩ : ∃ q, fl = q + 1 := ⟨fl - 1, by omega⟩
    obtain ⟨f, rfl⟩ : ∃ q, f = q + 1 := ⟨f - 1, by omega⟩
    obtain ⟨hm, hm0, hm39, hlt, h80, hmR⟩ := h.mid hQ
    have hk80 := h.1.1.k80
    have hQ' : Q = (P ++ [m]) ++ R := by rw [hQ, List.append_assoc]; rfl
    have hmQ : m ∈ Q := by rw [hQ]; exact List.mem_append_right _ List.mem_cons_self
    have hRQ : ∀ j, j ∈ R → j ∈ Q := fun j q => by rw [hQ]; exact List.mem_append_right _ (List.mem_cons_of_mem _ q)
    obtain ⟨b1, b2, b3, b4, b5, b6⟩ := h.2.1.2.2.2 m hm hm0
    obtain ⟨kd10, kd9, kd15⟩ := h.1.1.hk hm
    have e64 : 6 * nI (mK Sm m) + 4 = nI (6 * mK Sm m + 4) := ix6' _ 4
    have e67 : Sm 7 (6 * mK Sm m + 4) = mG Sm m 4 := rfl
    have hx : b_X5_layMarks_9 (fl + 1) [(0, .inr 0), (1, .inl a), (2, .inl (nI P.length))] [] S = if b01 (mG Sm m 4 = 1) = 0 then cli (m_X5_innerAlone [.inr 0, .inl (nI m)] S) (fun S4 r4 => clv (m_X5_layAt [.inr 0, .inl (nI m), .inl r4] S4) (fun S5 => b_X5_layMarks_9 fl [(0, .inr 0), (1, .inl a), (2, .inl (nI (P ++ [m]).length))] [] S5)) else if 0 ≤ S 24 m then b_X5_layMarks_9 fl [(0, .inr 0), (1, .inl a), (2, .inl (nI (P ++ [m]).length))] [] S else cli (m_X5_layRow [.inr 0, .inl (nI (mK Sm m)), .inl 1] S) (fun S2 r2 => cli (m_X5_layRow [.inr 0, .inl (nI (mK Sm m)), .inl (-1)] S2) (fun S3 r3 => b_X5_layMarks_9 fl [(0, .inr 0), (1, .inl ((a + r2) + r3)), (2, .inl (nI (P ++ [m]).length))] [] S3)) := by
      rw [u_X5_layMarks_9, h.2.2.1.1, if_neg (nI_ge hlt (by omega)), nI_clamp (show P.length < 2 ^ 31 by omega), hm39]
      simp only [gA_nI (show P.length < 80 by omega) (show 80 < 2 ^ 31 by decide), gA_nI (show m < 80 by omega) (show 80 < 2 ^ 31 by decide), nI_clamp (show m < 2 ^ 31 by omega), kd15, h.1.1.inr hm, cli_ri, nI_1, len_sn]
    rw [hx]
    by_cases c1 : mG Sm m 4 = 1
    · rw [b01_t c1, if_neg (by decide)]
      by_cases c2 : Sm 13 m = 0
      · have n24 : ¬ 0 ≤ S 24 m := by rw [b5 c2]; decide
        rw [if_neg n24]
        have hun : ∀ j, j ∈ Q → mK Sm j = mK Sm m → Sm 13 j = 0 := by
          intro j hj e
          by_cases q : Sm 13 j = 0
          · exact q
          · have eg : mG Sm j 4 = 1 := by
              rw [← c1]
              unfold mG
              rw [e]
            exact absurd c2 (hC j m hj hmQ e eg q)
        obtain ⟨S1, Sm1, t1, r1, x1, y1, z1, R1, B1, L1, N1⟩ := h.row SC5 kd10 (PP_pf (n := n) (kd := mK Sm m) (s := 1) (Sm := Sm)) hR (fun j hj hpj => by
          have := hun j hj ((PP_pf j).mp hpj).1
          exact ⟨hD j hj this, this⟩)
        have hp2 : PP n (mK Sm m) (-1) (pfl n (mK Sm m) (-1) Sm) Sm1 := PP_pf.of B1
        have hno : ∀ j, pfl n (mK Sm m) (-1) Sm j = true → ¬ pfl n (mK Sm m) 1 Sm j = true := by
          intro j q1 q2
          have w1 := ((PP_pf j).mp q1).2
          have w2 := ((PP_pf j).mp q2).2
          rw [w1] at w2
          exact absurd w2 (by decide)
        obtain ⟨S2, Sm2, t2, r2, x2, y2, z2, R2, B2, L2, N2⟩ := z1.row SC6 kd10 hp2 R1 (fun j hj hpj => by
          have := hun j hj ((PP_pf j).mp hpj).1
          refine ⟨by rw [N1 j (fun w => hno j hpj w.2)]; exact hD j hj this, ?_⟩
          by_cases q : Sm1 13 j = 0
          · exact q
          · rcases (L1 j).mp q with v | v
            · exact absurd this v
            · exact absurd v.2 (hno j hpj))
        have hL : ∀ j, j ∈ Q → (Sm2 13 j ≠ 0 ↔ (Sm 13 j ≠ 0 ∨ mK Sm j = mK Sm m)) := by
          intro j hj
          rw [L2 j, L1 j, or_assoc]
          refine or_congr Iff.rfl ?_
          constructor
          · rintro (q | q)
            · exact ((PP_pf j).mp q.2).1
            · exact ((PP_pf j).mp q.2).1
          · intro q
            rcases h.1.1.sd_pm ((h.2.2.2.2.1 j).mp hj).1 with e | e
            · exact Or.inl ⟨hj, (PP_pf j).mpr ⟨q, e⟩⟩
            · exact Or.inr ⟨hj, (PP_pf j).mpr ⟨q, e⟩⟩
        have B := B1.tr B2
        have hmm : b_X6_place_146 (f + 1) [(0, .inr 0), (1, .inl a), (2, .inl 1)] [] Sm = b_X6_place_146 f [(0, .inr 0), (1, .inl (a + r1 + r2)), (2, .inl 1)] [] Sm2 := by
          rw [h.pick hQ hP c2, u_X6_place_221, if_neg (by decide), nI_clamp (by omega), kd9, e64]
          simp only [gA_nI (show m < 80 by omega) (show 80 < 2 ^ 31 by decide), gA_nI (show 6 * mK Sm m + 4 < 60 by omega) (show 60 < 2 ^ 31 by decide), nI_clamp (show 6 * mK Sm m + 4 < 2 ^ 31 by omega), e67, if_pos c1, y1, y2, cli_ri]
        rw [x1, cli_ri, x2, cli_ri, hmm]
        refine ih (P ++ [m]) fl f t2 S2 Sm2 (a + r1 + r2) hQ' (by omega) (by omega) z2 R2 ?_ ?_ ?_ ?_
        · intro j hj
          rcases List.mem_append.mp hj with q | q
          · exact (hL j (by rw [hQ]; exact List.mem_append_left _ q)).mpr (Or.inl (hP j q))
          · rw [List.mem_singleton] at q
            rw [q]
            exact (hL m hmQ).mpr (Or.inr rfl)
        · intro j hj hg
          rw [B.e_mG] at hg
          by_cases q : Sm2 13 j = 0
          · exact q
          · rcases (hL j (hRQ j hj)).mp q with v | v
            · exact absurd (hB j (List.mem_cons_of_mem _ hj) hg) v
            · exact absurd (by unfold mG at c1 ⊢; rw [v]; exact c1) hg
        · intro i j hi hj hk hg hl
          rw [B.e_mK] at hk
          rw [B.e_mG] at hg
          rw [hL j hj]
          rcases (hL i hi).mp hl with v | v
          · exact Or.inl (hC i j hi hj hk hg v)
          · exact Or.inr (by rw [← hk]; exact v)
        · intro j hj hl
          have w : ¬ (Sm 13 j ≠ 0 ∨ mK Sm j = mK Sm m) := fun w => (hL j hj).mpr w hl
          have w1 : Sm 13 j = 0 := by
            by_cases q : Sm 13 j = 0
            · exact q
            · exact absurd (Or.inl q) w
          rw [N2 j (fun v => w (Or.inr ((PP_pf j).mp v.2).1)), N1 j (fun v => w (Or.inr ((PP_pf j).mp v.2).1))]
          exact hD j hj w1
      · rw [if_pos (b6 c2).2.2.2]
        exact ih (P ++ [m]) fl (f + 1) t S Sm a hQ' (by omega) (by omega) h hR (fun j hj => by
          rcases List.mem_append.mp hj with q | q
          · exact hP j q
          · rw [List.mem_singleton] at q
            rw [q]
            exact c2) (fun j hj hg => hB j (List.mem_cons_of_mem _ hj) hg) hC hD
    · have c2 : Sm 13 m = 0 := hB m List.mem_cons_self c1
      rw [b01_f c1, if_pos rfl]
      obtain ⟨r, o1, o2, o3, o4⟩ := h.1.own h.2.1 hm hm0
      obtain ⟨S1, l1, l2⟩ := h.lay hm hm0 c2 (v := r) (b := 0) (Or.inl rfl) (b3.trans (hD m hmQ c2)) ⟨by omega, o4⟩
      have hmm : b_X6_place_146 (f + 1) [(0, .inr 0), (1, .inl a), (2, .inl 1)] [] Sm = b_X6_place_146 f [(0, .inr 0), (1, .inl a), (2, .inl 1)] [] (mLie Sm m r 0 t) := by
        rw [h.pick hQ hP c2, u_X6_place_221, if_neg (by decide), nI_clamp (by omega), kd9, e64]
        simp only [gA_nI (show m < 80 by omega) (show 80 < 2 ^ 31 by decide), gA_nI (show 6 * mK Sm m + 4 < 60 by omega) (show 60 < 2 ^ 31 by decide), nI_clamp (show 6 * mK Sm m + 4 < 2 ^ 31 by omega), e67, if_neg c1, r10, ↓reduceIte, o2, cli_ri, q_lie (show m < 80 by omega) (Or.inl rfl) h.2.1.2.1, clv_rv]
      rw [o1, cli_ri, l1, clv_rv, hmm]
      refine ih (P ++ [m]) fl f (t + 1) S1 (mLie Sm m r 0 t) a hQ' (by omega) (by omega) l2 (hR.of bsM_lie rfl) ?_ ?_ ?_ ?_
      · intro j hj
        rw [mLie_13]
        by_cases e : j = m
        · rw [if_pos e]
          decide
        · rw [if_neg e]
          rcases List.mem_append.mp hj with q | q
          · exact hP j q
          · exact absurd (List.mem_singleton.mp q) e
      · intro j hj hg
        rw [mLie_13, if_neg (show ¬ j = m from fun q => hmR (q ▸ hj))]
        exact hB j (List.mem_cons_of_mem _ hj) hg
      · intro i j hi hj hk hg hl
        rw [mLie_13] at hl ⊢
        have e : i ≠ m := fun e => c1 (by rw [← e]; exact hg)
        rw [if_neg e] at hl
        have := hC i j hi hj hk hg hl
        by_cases e2 : j = m
        · rw [if_pos e2]
          decide
        · rw [if_neg e2]
          exact this
      · intro j hj hl
        rw [mLie_13] at hl
        by_cases e : j = m
        · rw [if_pos e] at hl
          exact absurd hl (by decide)
        · rw [if_neg e] at hl
          rw [mLie_15, if_neg e]
          exact hD j hj hl
/-- what holds where all is placed -/
def PLx (n k z : Nat) (S Sm : XS) : Prop := ∃ t, J n k z z t S Sm ∧ JM n k t S Sm ∧ ∀ j, j < k → Sm 12 j = 0 → Sm 13 j ≠ 0
theorem lc_cg {S S' : XS} (h1 : S' 12 = S 12) (h2 : S' 13 = S 13) : ∀ k, lc S' k = lc S k := by
  intro k
  induction k with
  | zero => rfl
  | succ k ih => unfold lc; rw [ih, h1, h2]
theorem PLx_ok : PLok PLx := by
  rintro n k z S Sm c ⟨t, h1, h2, h3⟩
  exact ⟨t, h1, ⟨h2.1, h2.2.1, by rw [lc_cg (S := Sm) (S' := up2 Sm 0 0 c) rfl rfl]; exact h2.2.2.1, h2.2.2.2⟩, h3⟩
theorem s_place {S Sm : XS} (hr : RelP PLx S Sm) : PD (RelP PLx) m_X5_place m_X6_place S Sm [] := by
  obtain ⟨n, k, z, hb, -⟩ := hr
  have h80 := hb.k80
  have h10 := hb.z10
  obtain ⟨S1, x1, f1, o1, o2, o3⟩ := p_clear5 S
  obtain ⟨S2, x2, f2, o4, o5, o6⟩ := p_clear6 S1
  obtain ⟨Sm1, y1, g1, g2, g3, g4, g5, g6⟩ := q_place hb.2.2.1.2.1 h80
  have hbm : bsM Sm Sm1 := ⟨g2 1 (by decide) (by decide) (by decide), g2 9 (by decide) (by decide) (by decide), g2 20 (by decide) (by decide) (by decide), g1 1 (by decide), g1 2 (by decide), g1 3 (by decide), g1 4 (by decide), g1 5 (by decide), g1 6 (by decide), g1 7 (by decide), g1 8 (by decide), g1 9 (by decide), g1 10 (by decide), g1 11 (by decide), g1 12 (by decide), g1 17 (by decide), g1 18 (by decide), g1 19 (by decide), g1 20 (by decide)⟩
  have hb2 : RB n k z S2 Sm1 := hb.of (((f1.tr f2).mono (by decide)).bs) hbm
  obtain ⟨S3, x3, f3, k1, k2, k3⟩ := hb2.coverItems (by rw [f2 5 (by decide)]; exact o1) o4
  have hb3 : RB n k z S3 Sm1 := hb2.of (f3.mono (by decide)).bs bsM.rf
  have hJ0 : J n k z 0 0 S3 Sm1 := J.zero hb3 k2 k3 (by rw [(k1 5 (by decide)).1, f2 5 (by decide)]; exact o2) (by rw [(k1 5 (by decide)).2]; exact o5) (fun kd q => by rw [f3 34 (by decide), f2 34 (by decide)]; exact o3 kd q) (fun kd q => by rw [f3 38 (by decide)]; exact o6 kd q) (fun j hj => (g5 j hj).1) g6 g3
  obtain ⟨S4, Sm2, x4, y2, hJ, f4, f5, g7⟩ := J.slurs z 0 fu fu S3 Sm1 (by omega) (by rw [fu_eq]; omega) (by rw [fu_eq]; omega) hJ0
  obtain ⟨S5, Q, x5, f6, q1, q2, q3, q4, q5, q6, q7⟩ := hJ.1.queueMarks
  have f7 : fr [0, 19, 20, 23, 24, 39] S4 (up2 S5 0 8 0) := (f6.tr (fr.up (l := [0]) (by simp))).mono (by decide)
  have e13 : ∀ j, j < k → Sm2 13 j = 0 := fun j hj => by rw [f5 13 (by decide)]; exact (g5 j hj).1
  have e15 : ∀ j, j < k → Sm2 15 j = 0 := fun j hj => by rw [f5 15 (by decide)]; exact (g5 j hj).2
  have hlc : ∀ i, i ≤ k → lc Sm2 i = 0 := by
    intro i
    induction i with
    | zero => intro _; rfl
    | succ i ih =>
      intro hi
      unfold lc
      rw [ih (by omega), if_neg (fun w => w.2 (e13 i (by omega)))]
  have hK : KK n k z Q 0 (up2 S5 0 8 0) Sm2 := by
    refine ⟨hJ.frX (f7.mono (by decide)), ⟨up2_s _, ?_, (hlc k (Nat.le_refl _)).symm, fun j hj h0 => ?_⟩, ⟨by rw [up2_n _ (by decide)]; exact q2, q3⟩, q4, q5, q6⟩
    · rw [g7 19 (by decide), g4]
      rfl
    · obtain ⟨w1, w2, w3, w4⟩ := q7 j hj h0
      refine ⟨w1, w2, ?_, Or.inl (e15 j hj), fun _ => w4, fun w => absurd (e13 j hj) w⟩
      rw [e15 j hj]
      exact w3
  have hHR : HR n k Sm2 := by
    intro s kd hs hkd hq
    refine absurd ?_ hq
    rw [f5 22 (by decide)]
    refine g6 _ ?_
    unfold rwI
    split <;> omega
  obtain ⟨S6, Sm3, t, a, x6, y3, hK6, hall⟩ := KK.marks (n := n) (k := k) (z := z) (Q := Q) Q [] fu fu 0 (up2 S5 0 8 0) Sm2 0 rfl (by rw [fu_eq]; omega) (by rw [fu_eq]; omega) hK hHR (fun j hj => absurd hj List.not_mem_nil) (fun j hj _ => e13 j ((q5 j).mp hj).1) (fun i j hi _ _ _ hl => absurd (e13 i ((q5 i).mp hi).1) hl) (fun j hj _ => e15 j ((q5 j).mp hj).1)
  have fS : fr [0] S6 (up2 S6 0 9 1) := fr.up (by simp)
  refine ⟨up2 S6 0 9 1, up2 Sm3 0 29 1, a, ?_, ?_, n, k, z, ?_, rfl, Or.inr ⟨rfl, t, ?_, ?_, ?_⟩⟩
  · rw [u_X5_place, x1, clv_rv, x2, clv_rv, x3, clv_rv, u_X5_laySlurs]
    rw [show b_X5_laySlurs_2 fu [(0, .inr 0), (1, .inl 0)] [] S3 = rv S4 from x4, clv_rv, x5, clv_rv, u_X5_layMarks]
    rw [show b_X5_layMarks_9 fu [(0, .inr 0), (1, .inl 0), (2, .inl 0)] [] (up2 S5 0 8 0) = ri S6 a from x6, cli_ri]
  · rw [y1, y2, y3]
  · exact hK6.1.1.of (fS.mono (by decide)).bs ⟨rfl, rfl, rfl, rfl, rfl, rfl, rfl, rfl, rfl, rfl, rfl, rfl, rfl, rfl, rfl, rfl, rfl, rfl, rfl⟩
  · have hJ' : J n k z z t S6 (up2 Sm3 0 29 1) := hK6.1
    exact hJ'.frX (fS.mono (by decide))
  · exact ⟨hK6.2.1.1, hK6.2.1.2.1, by rw [lc_cg (S := Sm3) (S' := up2 Sm3 0 29 1) rfl rfl]; exact hK6.2.1.2.2.1, hK6.2.1.2.2.2⟩
  · intro j hj h0
    exact hall j ((hK6.2.2.2.2.1 j).mpr ⟨hj, h0⟩)
