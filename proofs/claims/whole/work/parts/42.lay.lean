/-! PURE PART: a mark is laid, on both sides. -/
theorem lc_lt {S : XS} : ∀ k j, j < k → S 13 j = 0 → lc S k < k := by
  intro k
  induction k with
  | zero => intro j h; omega
  | succ k ih =>
    intro j h1 h2
    unfold lc
    by_cases e : j = k
    · subst e
      rw [if_neg (fun q => q.2 h2)]
      have := lc_le (S := S) j
      omega
    · have := ih j (by omega) h2
      split <;> omega
def mLie (Sm : XS) (j : Nat) (v b : Int32) (t : Nat) : XS := up2 (up2 (up2 (up2 (up2 Sm 14 j v) 15 j b) 13 j 1) 16 j (nI t)) 0 19 (nI (t + 1))
theorem mLie_13 {Sm : XS} {j : Nat} {v b : Int32} {t i : Nat} : mLie Sm j v b t 13 i = if i = j then 1 else Sm 13 i := by
  unfold mLie
  simp only [up2_at]
  rfl
theorem mLie_14 {Sm : XS} {j : Nat} {v b : Int32} {t i : Nat} : mLie Sm j v b t 14 i = if i = j then v else Sm 14 i := by
  unfold mLie
  simp only [up2_at]
  rfl
theorem mLie_15 {Sm : XS} {j : Nat} {v b : Int32} {t i : Nat} : mLie Sm j v b t 15 i = if i = j then b else Sm 15 i := by
  unfold mLie
  simp only [up2_at]
  rfl
theorem mLie_16 {Sm : XS} {j : Nat} {v b : Int32} {t i : Nat} : mLie Sm j v b t 16 i = if i = j then nI t else Sm 16 i := by
  unfold mLie
  simp only [up2_at]
  rfl
theorem lc_lay {Sm : XS} {j : Nat} {v b : Int32} {t : Nat} (h0 : Sm 12 j = 0) (hl : Sm 13 j = 0) : ∀ k, lc (mLie Sm j v b t) k = lc Sm k + (if j < k then 1 else 0) := by
  intro k
  induction k with
  | zero => rfl
  | succ k ih =>
    unfold lc
    rw [ih, mLie_13, show mLie Sm j v b t 12 k = Sm 12 k from rfl]
    by_cases e : k = j
    · subst e
      rw [if_neg (show ¬ k < k by omega), if_pos rfl, if_pos ⟨h0, by decide⟩, if_neg (fun q => q.2 hl), if_pos (by omega)]
    · rw [if_neg e]
      by_cases q : j < k
      · rw [if_pos q, if_pos (show j < k + 1 by omega)]
        omega
      · rw [if_neg q, if_neg (show ¬ j < k + 1 by omega)]
        omega
theorem RT_lay {n z0 k t j : Nat} {Sm : XS} {v b s f l h : Int32} (hj : j < k) (h0 : Sm 12 j = 0) (hl : Sm 13 j = 0) : RT n n z0 k (mLie Sm j v b t) s f l h ↔ RT n n z0 k Sm s f l h ∨ (sd n Sm j = s ∧ f = lf Sm j ∧ l = lf Sm j + Sm 10 j - 1 ∧ h = v + Sm 11 j) := by
  constructor
  · rintro (q | q | ⟨i, q1, q2, q3, q4, q5, q6, q7⟩)
    · exact Or.inl (Or.inl q)
    · exact Or.inl (Or.inr (Or.inl q))
    · rw [mLie_13] at q3
      rw [mLie_14] at q7
      by_cases e : i = j
      · subst e
        rw [if_pos rfl] at q7
        exact Or.inr ⟨q4, q5, q6, q7⟩
      · rw [if_neg e] at q3 q7
        exact Or.inl (Or.inr (Or.inr ⟨i, q1, q2, q3, q4, q5, q6, q7⟩))
  · rintro ((q | q | ⟨i, q1, q2, q3, q4, q5, q6, q7⟩) | ⟨q4, q5, q6, q7⟩)
    · exact Or.inl q
    · exact Or.inr (Or.inl q)
    · have e : i ≠ j := fun e => q3 (by rw [e]; exact hl)
      exact Or.inr (Or.inr ⟨i, q1, q2, by rw [mLie_13, if_neg e]; exact q3, q4, q5, q6, by rw [mLie_14, if_neg e]; exact q7⟩)
    · exact Or.inr (Or.inr ⟨j, hj, h0, by rw [mLie_13, if_pos rfl]; decide, q4, q5, q6, by rw [mLie_14, if_pos rfl]; exact q7⟩)
theorem OT_lay {n z0 k t j : Nat} {Sm : XS} {v b s h : Int32} (hj : j < k) (h0 : Sm 12 j = 0) (hl : Sm 13 j = 0) : OT n z0 k (mLie Sm j v b t) s h ↔ OT n z0 k Sm s h ∨ (sd n Sm j = s ∧ h = v + Sm 11 j) := by
  constructor
  · rintro (q | ⟨i, q1, q2, q3, q4, q7⟩)
    · exact Or.inl (Or.inl q)
    · rw [mLie_13] at q3
      rw [mLie_14] at q7
      by_cases e : i = j
      · subst e
        rw [if_pos rfl] at q7
        exact Or.inr ⟨q4, q7⟩
      · rw [if_neg e] at q3 q7
        exact Or.inl (Or.inr ⟨i, q1, q2, q3, q4, q7⟩)
  · rintro ((q | ⟨i, q1, q2, q3, q4, q7⟩) | ⟨q4, q7⟩)
    · exact Or.inl q
    · have e : i ≠ j := fun e => q3 (by rw [e]; exact hl)
      exact Or.inr ⟨i, q1, q2, by rw [mLie_13, if_neg e]; exact q3, q4, by rw [mLie_14, if_neg e]; exact q7⟩
    · exact Or.inr ⟨j, hj, h0, by rw [mLie_13, if_pos rfl]; decide, q4, by rw [mLie_14, if_pos rfl]; exact q7⟩
theorem bsM_lie {Sm : XS} {j : Nat} {v b : Int32} {t : Nat} : bsM Sm (mLie Sm j v b t) := ⟨rfl, rfl, rfl, rfl, rfl, rfl, rfl, rfl, rfl, rfl, rfl, rfl, rfl, rfl, rfl, rfl, rfl, rfl, rfl⟩
theorem q_lie {Sm : XS} {j t : Nat} {v b : Int32} (hj : j < 80) (hb : b = 0 ∨ b = 1) (ht : Sm 0 19 = nI t) : m_X6_lie [.inr 0, .inl (nI j), .inl v, .inl b] Sm = rv (mLie Sm j v b t) := by
  have eb : vp_nar .boolean b = b := by rcases hb with e | e <;> subst e <;> decide
  rw [u_X6_lie]
  simp only [gA_nI hj (show 80 < 2 ^ 31 by decide), nI_clamp (show j < 2 ^ 31 by omega), eb, nar1, up2_o _ _ (show (0 : Nat) ≠ 14 by decide), up2_o _ _ (show (0 : Nat) ≠ 15 by decide), up2_o _ _ (show (0 : Nat) ≠ 13 by decide), up2_o _ _ (show (0 : Nat) ≠ 16 by decide), ht, nI_1, mLie]
theorem J.great {n k z z0 t : Nat} {S Sm : XS} (h : J n k z z0 t S Sm) (ht : t ≤ 80) {s : Int32} {c : Nat} (hc : SC s c) (a b : Int32) : ∃ r, m_X3_greatest [.inr c, .inl a, .inl b] S = ri S r ∧ m_X6_greatest [.inr 0, .inl s, .inl a, .inl b] Sm = ri Sm r ∧ 18 ≤ r.toInt ∧ r.toInt ≤ 88 + 26 * z0 + 60 * t := by
  have h10 := h.1.z10
  have h40 := h.1.n40
  have hz := h.2.1.2
  obtain ⟨r, q1, q2⟩ := p_greats hc (h.2.2.1 s c hc).1 (by omega) a b
  obtain ⟨r', q3, q4⟩ := q_great h.1 h.2.1.1 h.2.1.2 hc.sd a b
  have e := q2 r' q4
  subst e
  refine ⟨r, q1, q3, ?_, ?_⟩
  · have := q4.1
    rw [Int32.le_iff_toInt_le, show (18 : Int32).toInt = 18 from rfl] at this
    exact this
  · refine isX_le q4 (by rw [show (18 : Int32).toInt = 18 from rfl]; omega) (fun x w => ?_)
    obtain ⟨f, l, w1, -⟩ := w
    exact h.2.2.2.2.1 s hc.sd f l x w1
theorem J.own {n k z t : Nat} {S Sm : XS} (h : J n k z z t S Sm) (hm : JM n k t S Sm) {j : Nat} (hj : j < k) (h0 : Sm 12 j = 0) : ∃ r, m_X5_innerAlone [.inr 0, .inl (nI j)] S = ri S r ∧ m_X6_own [.inr 0, .inl (nI j)] Sm = ri Sm r ∧ 18 ≤ r.toInt ∧ r.toInt ≤ 108 + 26 * z + 60 * t := by
  have h80 := h.1.k80
  have h10 := h.1.z10
  have ht : t ≤ 80 := by have := lc_le (S := Sm) k; have := hm.2.2.1; omega
  obtain ⟨a1, a2, -⟩ := hm.2.2.2 j hj h0
  obtain ⟨b1, b2, b3⟩ := h.1.hk hj
  have ew : S 16 j = Sm 10 j := (h.1.m hj).1.2.2.1
  obtain ⟨c, hc⟩ := SC_of (h.1.sd_pm hj)
  obtain ⟨r, q1, q2, q3, q4⟩ := h.great ht hc (lf Sm j - 1) (lf Sm j + Sm 10 j)
  have eg : m_X1_get [.inr 2, .inl (nI (mK Sm j)), .inl 3] S = ri S (mG Sm j 3) := h.1.get hj (w := 3) (by decide)
  have hw := wi_int.mp (h.1.gw hj (w := 3) (by decide))
  have c3 : (mostf 3).toInt = 20 := rfl
  have c0 : (0 : Int32).toInt = 0 := rfl
  refine ⟨r + mG Sm j 3, ?_, ?_, ?_, ?_⟩
  · rw [u_X5_innerAlone]
    simp only [gA_nI (show j < 80 by omega) (by decide), nI_clamp (show j < 2 ^ 31 by omega), a1, a2, u_X2_behind, cli_ri, ew, Int32.sub_add_cancel]
    rw [p_out hc]
    rcases hc with ⟨-, rfl⟩ | ⟨-, rfl⟩
    · rw [if_pos rfl]
      simp only [a1, ew, q1, cli_ri, b3, eg]
    · rw [if_neg (by decide)]
      simp only [a1, ew, q1, cli_ri, b3, eg]
  · have e6 : 6 * nI (mK Sm j) + 3 = nI (6 * mK Sm j + 3) := ix6' _ 3
    have e7 : Sm 7 (6 * mK Sm j + 3) = mG Sm j 3 := rfl
    rw [u_X6_own]
    simp only [gA_nI (show j < 80 by omega) (by decide), nI_clamp (show j < 2 ^ 31 by omega), b2, e6, gA_nI (show 6 * mK Sm j + 3 < 60 by omega) (by decide), nI_clamp (show 6 * mK Sm j + 3 < 2 ^ 31 by omega), e7, h.1.sideOf hj, h.1.left hj, cli_ri, q2]
    rw [Int32.add_comm (mG Sm j 3) r]
  · rw [add_toInt (by omega) (by omega)]
    omega
  · rw [add_toInt (by omega) (by omega)]
    omega
theorem J.lay {n k z t : Nat} {S Sm : XS} (h : J n k z z t S Sm) (hm : JM n k t S Sm) {j : Nat} (hj : j < k) (h0 : Sm 12 j = 0) (hl : Sm 13 j = 0) {v b : Int32} (hb : b = 0 ∨ b = 1) (hb2 : S 23 j = b) (hv : 0 ≤ v.toInt ∧ v.toInt ≤ 108 + 26 * z + 60 * t) : ∃ S', m_X5_layAt [.inr 0, .inl (nI j), .inl v] S = rv S' ∧ m_X6_lie [.inr 0, .inl (nI j), .inl v, .inl b] Sm = rv (mLie Sm j v b t) ∧ J n k z z (t + 1) S' (mLie Sm j v b t) ∧ JM n k (t + 1) S' (mLie Sm j v b t) ∧ fr [0, 5, 6, 21, 22, 24, 31, 32, 33, 35, 36, 37] S S' ∧ S' 0 7 = S 0 7 := by
  have h80 := h.1.k80
  have h10 := h.1.z10
  have h40 := h.1.n40
  have ht : t < 80 := by have := lc_lt (S := Sm) k j hj hl; have := hm.2.2.1; omega
  obtain ⟨a1, a2, a3, a4, a5, a6⟩ := hm.2.2.2 j hj h0
  have ew : S 16 j = Sm 10 j := (h.1.m hj).1.2.2.1
  have eh : S 17 j = Sm 11 j := (h.1.m hj).1.2.2.2.1
  have hw := wi_int.mp (h.1.m hj).2.2.2.2.1
  have c1 : (1 : Int32).toInt = 1 := rfl
  have c40 : (40 : Int32).toInt = 40 := rfl
  have tv : (v + Sm 11 j).toInt = v.toInt + (Sm 11 j).toInt := add_toInt (by omega) (by omega)
  obtain ⟨c, hc⟩ := SC_of (h.1.sd_pm hj)
  obtain ⟨hsk, hou⟩ := h.2.2.1 _ c hc
  have hS1 : fr [0, 21, 22, 24] S (up2 (up2 (up2 (up2 S 21 j v) 22 j (v + Sm 11 j)) 24 j (nI t)) 0 8 (nI (t + 1))) := ((((fr.up (l := [21]) (by simp)).tr (fr.up (l := [22]) (by simp))).tr (fr.up (l := [24]) (by simp))).tr (fr.up (l := [0]) (by simp))).mono (fun a ha => by simp at ha ⊢; omega)
  have v1 : up2 (up2 (up2 (up2 S 21 j v) 22 j (v + Sm 11 j)) 24 j (nI t)) 0 8 (nI (t + 1)) 0 8 = nI (t + 1) := rfl
  have v2 : ∀ i, i ≠ 8 → up2 (up2 (up2 (up2 S 21 j v) 22 j (v + Sm 11 j)) 24 j (nI t)) 0 8 (nI (t + 1)) 0 i = S 0 i := fun i hi => by rw [up2_n _ hi]; rfl
  have v3 : ∀ i, up2 (up2 (up2 (up2 S 21 j v) 22 j (v + Sm 11 j)) 24 j (nI t)) 0 8 (nI (t + 1)) 21 i = if i = j then v else S 21 i := fun i => by simp only [up2_at]; rfl
  have v4 : ∀ i, up2 (up2 (up2 (up2 S 21 j v) 22 j (v + Sm 11 j)) 24 j (nI t)) 0 8 (nI (t + 1)) 22 i = if i = j then v + Sm 11 j else S 22 i := fun i => by simp only [up2_at]; rfl
  have v5 : ∀ i, up2 (up2 (up2 (up2 S 21 j v) 22 j (v + Sm 11 j)) 24 j (nI t)) 0 8 (nI (t + 1)) 24 i = if i = j then nI t else S 24 i := fun i => by simp only [up2_at]; rfl
  have hX := u_X5_layAt S (nI j) v
  simp only [gA_nI (show j < 80 by omega) (show 80 < 2 ^ 31 by decide), nI_clamp (show j < 2 ^ 31 by omega), eh, up2_o _ _ (show (0 : Nat) ≠ 21 by decide), up2_o _ _ (show (0 : Nat) ≠ 22 by decide), up2_o _ _ (show (0 : Nat) ≠ 24 by decide), hm.1, nI_1, up2_o _ _ (show (20 : Nat) ≠ 21 by decide), up2_o _ _ (show (20 : Nat) ≠ 22 by decide), up2_o _ _ (show (20 : Nat) ≠ 24 by decide), up2_o _ _ (show (20 : Nat) ≠ 0 by decide), a2] at hX
  generalize up2 (up2 (up2 (up2 S 21 j v) 22 j (v + Sm 11 j)) 24 j (nI t)) 0 8 (nI (t + 1)) = S1 at hX hS1 v1 v2 v3 v4 v5
  have w1 : S1 19 j = lf Sm j := by rw [hS1 19 (by decide)]; exact a1
  have w2 : S1 16 j = Sm 10 j := by rw [hS1 16 (by decide)]; exact ew
  have hcl : c ≠ 0 ∧ c ≠ 21 ∧ c ≠ 22 ∧ c ≠ 24 := by rcases hc with ⟨-, rfl⟩ | ⟨-, rfl⟩ <;> decide
  have hcc : c = 5 ∨ c = 6 := by rcases hc with ⟨-, rfl⟩ | ⟨-, rfl⟩ <;> simp
  have hsk1 : skyI S1 c (2 * n + z + t) (RT n n z k Sm (sd n Sm j)) := hsk.of (by rw [hS1 c (by simp; omega)]) (hS1 _ (by simp; omega)) (hS1 _ (by simp; omega)) (hS1 _ (by simp; omega)) (Nat.le_refl _) (fun _ _ _ _ => Iff.rfl)
  obtain ⟨S2, k1, k2, k3, k4⟩ := p_covers hc hsk1 (by omega) (lf Sm j) (lf Sm j + Sm 10 j - 1) (v + Sm 11 j)
  have hX2 : m_X5_layAt [.inr 0, .inl (nI j), .inl v] S = rv (up2 S2 c 5 (if S2 c 5 < v + Sm 11 j then v + Sm 11 j else S2 c 5)) := by
    rw [hX]
    simp only [u_X2_behind, gA_nI (show j < 80 by omega) (show 80 < 2 ^ 31 by decide), nI_clamp (show j < 2 ^ 31 by omega), cli_ri, w1, w2]
    rw [p_out hc]
    have kr := p_reach (S := S2) hc (v + Sm 11 j)
    rcases hc with ⟨-, rfl⟩ | ⟨-, rfl⟩
    · rw [if_pos rfl]
      simp only [w1, w2, cli_ri, k1, clv_rv, kr]
    · rw [if_neg (by decide)]
      simp only [w1, w2, cli_ri, k1, clv_rv, kr]
  have f12 : fr [0, 21, 22, 24, c, 4 * c + 11, 4 * c + 12, 4 * c + 13] S (up2 S2 c 5 (if S2 c 5 < v + Sm 11 j then v + Sm 11 j else S2 c 5)) := ((hS1.tr k2).tr (fr.up (l := [c]) (by simp))).mono (fun a ha => by simp at ha ⊢; omega)
  have g0 : ∀ i, up2 S2 c 5 (if S2 c 5 < v + Sm 11 j then v + Sm 11 j else S2 c 5) 0 i = S1 0 i := fun i => by rw [up2_o _ _ (Ne.symm hcl.1), k2 0 (by simp; omega)]
  have g5 : up2 S2 c 5 (if S2 c 5 < v + Sm 11 j then v + Sm 11 j else S2 c 5) c 5 = if S c 5 < v + Sm 11 j then v + Sm 11 j else S c 5 := by rw [up2_s, k3 5 (by decide), hS1 c (by simp; omega)]
  have g4 : up2 S2 c 5 (if S2 c 5 < v + Sm 11 j then v + Sm 11 j else S2 c 5) c 4 = S2 c 4 := up2_n _ (by decide)
  have gk : ∀ a, a ≠ c → up2 S2 c 5 (if S2 c 5 < v + Sm 11 j then v + Sm 11 j else S2 c 5) a = S2 a := fun a ha => by funext i; exact up2_o _ _ ha
  generalize up2 S2 c 5 (if S2 c 5 < v + Sm 11 j then v + Sm 11 j else S2 c 5) = S' at hX2 f12 g0 g5 g4 gk
  have fall : fr [0, 5, 6, 21, 22, 24, 31, 32, 33, 35, 36, 37] S S' := f12.mono (fun a ha => by simp at ha ⊢; omega)
  have gm : ∀ a, a = 21 ∨ a = 22 ∨ a = 24 → S' a = S1 a := fun a ha => by rw [gk a (by omega), k2 a (by simp; omega)]
  refine ⟨S', hX2, q_lie (by omega) hb hm.2.1, ?_, ?_, fall, by rw [g0, v2 7 (by decide)]⟩
  · refine ⟨h.1.of (fall.mono (by decide)).bs bsM_lie, h.2.1, fun s' c' hc' => ?_, fun i hi => ?_, fun s' hs' f l x hx => ?_, fun s' c' kd hc' hkd => ?_⟩
    · obtain ⟨u1, u2⟩ := h.2.2.1 s' c' hc'
      by_cases e : c' = c
      · subst e
        have es : s' = sd n Sm j := by
          rcases hc with ⟨x1, x2⟩ | ⟨x1, x2⟩ <;> rcases hc' with ⟨y1, y2⟩ | ⟨y1, y2⟩
          · rw [x1, y1]
          · omega
          · omega
          · rw [x1, y1]
        subst es
        refine ⟨k4.of g4 (gk _ (by omega)) (gk _ (by omega)) (gk _ (by omega)) (by omega) (fun f l x _ => ?_), ?_⟩
        · rw [RT_lay hj h0 hl]
          exact or_congr Iff.rfl ⟨fun w => w.2, fun w => ⟨rfl, w⟩⟩
        · rw [g5]
          exact isX_add' u2 (fun x => by rw [OT_lay hj h0 hl]; exact or_congr Iff.rfl ⟨fun w => w.2, fun w => ⟨rfl, w⟩⟩)
      · have es : ¬ sd n Sm j = s' := by
          intro es
          rcases hc with ⟨x1, x2⟩ | ⟨x1, x2⟩ <;> rcases hc' with ⟨y1, y2⟩ | ⟨y1, y2⟩
          · omega
          · rw [x1, y1] at es; exact absurd es (by decide)
          · rw [x1, y1] at es; exact absurd es (by decide)
          · omega
        have hcc' : c' = 5 ∨ c' = 6 := by rcases hc' with ⟨-, rfl⟩ | ⟨-, rfl⟩ <;> simp
        refine ⟨u1.of (by rw [f12 c' (by simp; omega)]) (f12 _ (by simp; omega)) (f12 _ (by simp; omega)) (f12 _ (by simp; omega)) (by omega) (fun f l x _ => ?_), ?_⟩
        · rw [RT_lay hj h0 hl]
          exact ⟨fun w => w.elim id (fun w => absurd w.1 es), Or.inl⟩
        · rw [f12 c' (by simp; omega)]
          exact isX_cg u2 (fun x => by rw [OT_lay hj h0 hl]; exact ⟨Or.inl, fun w => w.elim id (fun w => absurd w.1 es)⟩)
    · rw [fall 29 (by decide), fall 30 (by decide)]
      exact h.2.2.2.1 i hi
    · rcases (RT_lay hj h0 hl).mp hx with w | w
      · have := h.2.2.2.2.1 s' hs' f l x w
        omega
      · rw [w.2.2.2, tv]
        omega
    · have hcc' : c' = 5 ∨ c' = 6 := by rcases hc' with ⟨-, rfl⟩ | ⟨-, rfl⟩ <;> simp
      rw [fall _ (by simp; omega)]
      exact h.2.2.2.2.2 s' c' kd hc' hkd
  · refine ⟨by rw [g0]; exact v1, rfl, by rw [lc_lay h0 hl, if_pos hj, ← hm.2.2.1], fun i hi hi0 => ?_⟩
    obtain ⟨b1, b2, b3, b4, b5, b6⟩ := hm.2.2.2 i hi hi0
    unfold jm
    rw [fall 19 (by decide), fall 20 (by decide), fall 23 (by decide), gm 21 (by simp), gm 22 (by simp), gm 24 (by simp), v3, v4, v5, mLie_13, mLie_14, mLie_15, mLie_16]
    by_cases e : i = j
    · subst e
      simp only [↓reduceIte]
      exact ⟨b1, b2, hb2, hb, fun w => absurd w (by decide), fun _ => ⟨by first | rfl | trivial, by first | rfl | trivial, by first | rfl | trivial, nI_pos' (by omega)⟩⟩
    · simp only [if_neg e]
      exact ⟨b1, b2, b3, b4, b5, b6⟩
