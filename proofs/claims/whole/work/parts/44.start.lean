/-! PURE PART: places begin. -/
theorem p_clear5 (S : XS) : ∃ S', m_X3_clear [.inr 5] S = rv S' ∧ fr [5, 34] S S' ∧ S' 5 4 = 0 ∧ S' 5 5 = 0 ∧ ∀ kd, kd < 10 → S' 34 kd = -100003 := by
  rw [u_X3_clear_5]
  refine lp0 (b := fun fl i (s : XS) => b_X3_clear_12 fl [(0, .inr 5), (1, .inl (nI i))] [] s) (N := 10) (by omega) (s := up2 (up2 S 5 4 0) 5 5 0) (fun i s => fr [5, 34] S s ∧ s 5 4 = 0 ∧ s 5 5 = 0 ∧ ∀ kd, kd < i → s 34 kd = -100003) (fun o => ∃ S', o = rv S' ∧ fr [5, 34] S S' ∧ S' 5 4 = 0 ∧ S' 5 5 = 0 ∧ ∀ kd, kd < 10 → S' 34 kd = -100003) ⟨((fr.up (l := [5]) (by simp)).tr (fr.up (l := [5]) (by simp))).mono (by decide), rfl, rfl, fun kd q => absurd q (by omega)⟩ ?_ ?_
  · rintro fl i s hi ⟨a1, a2, a3, a4⟩
    left
    have n1 : ¬ (10 : Int32) ≤ nI i := by rw [show (10 : Int32) = nI 10 from rfl]; exact nI_ge hi (by omega)
    refine ⟨up2 s 34 i (-100003), ⟨(a1.tr (fr.up (l := [34]) (by simp))).mono (by decide), by rw [up2_o _ _ (show (5 : Nat) ≠ 34 by decide)]; exact a2, by rw [up2_o _ _ (show (5 : Nat) ≠ 34 by decide)]; exact a3, fun kd q => ?_⟩, by simp only [u_X3_clear_5_12, if_neg n1, gA_nI (show i < 10 by omega) (by decide), nI_clamp (show i < 2 ^ 31 by omega), nI_1]⟩
    rw [up2_at, if_pos rfl]
    by_cases e : kd = i
    · rw [if_pos e]
    · rw [if_neg e]
      exact a4 kd (by omega)
  · rintro fl s ⟨a1, a2, a3, a4⟩
    exact ⟨s, by simp only [u_X3_clear_5_12, if_pos (show (10 : Int32) ≤ nI 10 by decide)], a1, a2, a3, a4⟩
theorem p_clear6 (S : XS) : ∃ S', m_X3_clear [.inr 6] S = rv S' ∧ fr [6, 38] S S' ∧ S' 6 4 = 0 ∧ S' 6 5 = 0 ∧ ∀ kd, kd < 10 → S' 38 kd = -100003 := by
  rw [u_X3_clear_6]
  refine lp0 (b := fun fl i (s : XS) => b_X3_clear_12 fl [(0, .inr 6), (1, .inl (nI i))] [] s) (N := 10) (by omega) (s := up2 (up2 S 6 4 0) 6 5 0) (fun i s => fr [6, 38] S s ∧ s 6 4 = 0 ∧ s 6 5 = 0 ∧ ∀ kd, kd < i → s 38 kd = -100003) (fun o => ∃ S', o = rv S' ∧ fr [6, 38] S S' ∧ S' 6 4 = 0 ∧ S' 6 5 = 0 ∧ ∀ kd, kd < 10 → S' 38 kd = -100003) ⟨((fr.up (l := [6]) (by simp)).tr (fr.up (l := [6]) (by simp))).mono (by decide), rfl, rfl, fun kd q => absurd q (by omega)⟩ ?_ ?_
  · rintro fl i s hi ⟨a1, a2, a3, a4⟩
    left
    have n1 : ¬ (10 : Int32) ≤ nI i := by rw [show (10 : Int32) = nI 10 from rfl]; exact nI_ge hi (by omega)
    refine ⟨up2 s 38 i (-100003), ⟨(a1.tr (fr.up (l := [38]) (by simp))).mono (by decide), by rw [up2_o _ _ (show (6 : Nat) ≠ 38 by decide)]; exact a2, by rw [up2_o _ _ (show (6 : Nat) ≠ 38 by decide)]; exact a3, fun kd q => ?_⟩, by simp only [u_X3_clear_6_12, if_neg n1, gA_nI (show i < 10 by omega) (by decide), nI_clamp (show i < 2 ^ 31 by omega), nI_1]⟩
    rw [up2_at, if_pos rfl]
    by_cases e : kd = i
    · rw [if_pos e]
    · rw [if_neg e]
      exact a4 kd (by omega)
  · rintro fl s ⟨a1, a2, a3, a4⟩
    exact ⟨s, by simp only [u_X3_clear_6_12, if_pos (show (10 : Int32) ≤ nI 10 by decide)], a1, a2, a3, a4⟩
def CV : List Nat := [5, 6, 31, 32, 33, 35, 36, 37]
theorem SC5 : SC 1 5 := Or.inl ⟨rfl, rfl⟩
theorem SC6 : SC (-1) 6 := Or.inr ⟨rfl, rfl⟩
theorem p_cov5 {S : XS} {M N : Nat} {T5 T6 : Int32 → Int32 → Int32 → Prop} (h5 : skyI S 5 M T5) (h6 : skyI S 6 N T6) (hM : M < 170) (a b c : Int32) : ∃ S', m_X3_cover [.inr 5, .inl a, .inl b, .inl c] S = rv S' ∧ fr CV S S' ∧ (∀ q, q ≠ 4 → S' 5 q = S 5 q ∧ S' 6 q = S 6 q) ∧ skyI S' 5 (M + 1) (fun f l h => T5 f l h ∨ (f = a ∧ l = b ∧ h = c)) ∧ skyI S' 6 N T6 := by
  obtain ⟨S1, e1, f1, g1, k1⟩ := p_covers SC5 h5 hM a b c
  exact ⟨S1, e1, f1.mono (by decide), fun q hq => ⟨g1 q hq, by rw [f1 6 (by decide)]⟩, k1, h6.of (by rw [f1 6 (by decide)]) (f1 _ (by decide)) (f1 _ (by decide)) (f1 _ (by decide)) (Nat.le_refl _) (fun _ _ _ _ => Iff.rfl)⟩
theorem p_cov6 {S : XS} {M N : Nat} {T5 T6 : Int32 → Int32 → Int32 → Prop} (h5 : skyI S 5 M T5) (h6 : skyI S 6 N T6) (hN : N < 170) (a b c : Int32) : ∃ S', m_X3_cover [.inr 6, .inl a, .inl b, .inl c] S = rv S' ∧ fr CV S S' ∧ (∀ q, q ≠ 4 → S' 5 q = S 5 q ∧ S' 6 q = S 6 q) ∧ skyI S' 5 M T5 ∧ skyI S' 6 (N + 1) (fun f l h => T6 f l h ∨ (f = a ∧ l = b ∧ h = c)) := by
  obtain ⟨S1, e1, f1, g1, k1⟩ := p_covers SC6 h6 hN a b c
  exact ⟨S1, e1, f1.mono (by decide), fun q hq => ⟨by rw [f1 5 (by decide)], g1 q hq⟩, h5.of (by rw [f1 5 (by decide)]) (f1 _ (by decide)) (f1 _ (by decide)) (f1 _ (by decide)) (Nat.le_refl _) (fun _ _ _ _ => Iff.rfl), k1⟩
theorem skyI.mn {S : XS} {c M M' : Nat} {T T' : Int32 → Int32 → Int32 → Prop} (h : skyI S c M T) (hM : M ≤ M') (hT : ∀ f l h, 18 < h → (T' f l h ↔ T f l h)) : skyI S c M' T' := h.of rfl rfl rfl rfl hM hT
theorem sub_c (a b : Int32) : a - b = -b + a := by rw [Int32.sub_eq_add_neg, Int32.add_comm]
theorem p_heads {S : XS} {i M : Nat} (hi : i < 40) {T5 T6 : Int32 → Int32 → Int32 → Prop} (h5 : skyI S 5 M T5) (h6 : skyI S 6 M T6) (hM : M < 170) (a2 a3 : Int32) : ∃ S', m_X5_coverHeads [.inr 0, .inl (nI i), .inl a2, .inl a3] S = rv S' ∧ fr CV S S' ∧ (∀ q, q ≠ 4 → S' 5 q = S 5 q ∧ S' 6 q = S 6 q) ∧ skyI S' 5 (M + 1) (fun f l h => T5 f l h ∨ (f = S 7 i - a2 ∧ l = S 7 i + a2 ∧ h = S 9 i + a3)) ∧ skyI S' 6 (M + 1) (fun f l h => T6 f l h ∨ (f = S 7 i - a2 ∧ l = S 7 i + a2 ∧ h = -(S 8 i) + a3)) := by
  obtain ⟨S1, e1, f1, g1, k1, l1⟩ := p_cov5 h5 h6 hM (S 7 i - a2) (S 7 i + a2) (S 9 i + a3)
  obtain ⟨S2, e2, f2, g2, k2, l2⟩ := p_cov6 k1 l1 hM (S 7 i - a2) (S 7 i + a2) (-(S 8 i) + a3)
  refine ⟨S2, ?_, (f1.tr f2).mono (by decide), fun q hq => ⟨by rw [(g2 q hq).1, (g1 q hq).1], by rw [(g2 q hq).2, (g1 q hq).2]⟩, k2, l2⟩
  rw [u_X5_coverHeads]
  simp only [gA_nI hi (show 40 < 2 ^ 31 by decide), nI_clamp (show i < 2 ^ 31 by omega), e1, clv_rv, f1 8 (by decide), sub_c a3, e2]
theorem p_stem {S : XS} {i M : Nat} (hi : i < 40) {T5 T6 : Int32 → Int32 → Int32 → Prop} (h5 : skyI S 5 M T5) (h6 : skyI S 6 M T6) (hM : M < 170) : ∃ S', m_X5_coverStem [.inr 0, .inl (nI i)] S = rv S' ∧ fr CV S S' ∧ (∀ q, q ≠ 4 → S' 5 q = S 5 q ∧ S' 6 q = S 6 q) ∧ skyI S' 5 (M + 1) (fun f l h => T5 f l h ∨ (S 11 i = 1 ∧ f = S 7 i - 1 ∧ l = S 7 i + 1 ∧ h = S 9 i + 28)) ∧ skyI S' 6 (M + 1) (fun f l h => T6 f l h ∨ (S 11 i = -1 ∧ f = S 7 i - 1 ∧ l = S 7 i + 1 ∧ h = -(S 8 i) + 28)) := by
  rw [u_X5_coverStem]
  simp only [gA_nI hi (show 40 < 2 ^ 31 by decide), nI_clamp (show i < 2 ^ 31 by omega), sub_c 28]
  by_cases c1 : S 11 i = 1
  · have c2 : ¬ S 11 i = -1 := by rw [c1]; decide
    obtain ⟨S1, e1, f1, g1, k1, l1⟩ := p_cov5 h5 h6 hM (S 7 i - 1) (S 7 i + 1) (S 9 i + 28)
    refine ⟨S1, by rw [if_pos c1, e1, clv_rv], f1, g1, k1.mn (Nat.le_refl _) (fun f l h _ => ?_), l1.mn (Nat.le_succ _) (fun f l h _ => ?_)⟩
    · exact ⟨fun q => q.imp id (fun w => w.2), fun q => q.imp id (fun w => ⟨c1, w⟩)⟩
    · exact ⟨fun q => q.elim id (fun w => absurd w.1 c2), Or.inl⟩
  · by_cases c2 : S 11 i = -1
    · obtain ⟨S1, e1, f1, g1, k1, l1⟩ := p_cov6 h5 h6 hM (S 7 i - 1) (S 7 i + 1) (-(S 8 i) + 28)
      refine ⟨S1, by rw [if_neg c1, if_pos c2, e1, clv_rv], f1, g1, k1.mn (Nat.le_succ _) (fun f l h _ => ?_), l1.mn (Nat.le_refl _) (fun f l h _ => ?_)⟩
      · exact ⟨fun q => q.elim id (fun w => absurd w.1 c1), Or.inl⟩
      · exact ⟨fun q => q.imp id (fun w => w.2), fun q => q.imp id (fun w => ⟨c2, w⟩)⟩
    · refine ⟨S, by rw [if_neg c1, if_neg c2], fr.rf, fun _ _ => ⟨rfl, rfl⟩, h5.mn (Nat.le_succ _) (fun f l h _ => ?_), h6.mn (Nat.le_succ _) (fun f l h _ => ?_)⟩
      · exact ⟨fun q => q.elim id (fun w => absurd w.1 c1), Or.inl⟩
      · exact ⟨fun q => q.elim id (fun w => absurd w.1 c2), Or.inl⟩
theorem RB.coverItems {n k z : Nat} {S Sm : XS} (h : RB n k z S Sm) (h5 : S 5 4 = 0) (h6 : S 6 4 = 0) : ∃ S', m_X5_coverItems [.inr 0] S = rv S' ∧ fr CV S S' ∧ (∀ q, q ≠ 4 → S' 5 q = S 5 q ∧ S' 6 q = S 6 q) ∧ skyI S' 5 (2 * n) (fun f l h => ∃ j, j < n ∧ RTi Sm 1 j f l h) ∧ skyI S' 6 (2 * n) (fun f l h => ∃ j, j < n ∧ RTi Sm (-1) j f l h) := by
  have h40 := h.n40
  rw [u_X5_coverItems]
  refine lp0 (b := fun fl i (s : XS) => b_X5_coverItems_2 fl [(0, .inr 0), (1, .inl (nI i))] [] s) (N := n) (by omega) (fun i s => fr CV S s ∧ (∀ q, q ≠ 4 → s 5 q = S 5 q ∧ s 6 q = S 6 q) ∧ skyI s 5 (2 * i) (fun f l h => ∃ j, j < i ∧ RTi Sm 1 j f l h) ∧ skyI s 6 (2 * i) (fun f l h => ∃ j, j < i ∧ RTi Sm (-1) j f l h)) (fun o => ∃ S', o = rv S' ∧ fr CV S S' ∧ (∀ q, q ≠ 4 → S' 5 q = S 5 q ∧ S' 6 q = S 6 q) ∧ skyI S' 5 (2 * n) (fun f l h => ∃ j, j < n ∧ RTi Sm 1 j f l h) ∧ skyI S' 6 (2 * n) (fun f l h => ∃ j, j < n ∧ RTi Sm (-1) j f l h)) ⟨fr.rf, fun _ _ => ⟨rfl, rfl⟩, ⟨0, h5, Nat.le_refl _, fun f l h _ => ⟨fun ⟨j, q, _⟩ => by omega, fun ⟨j, q, _⟩ => by omega⟩⟩, ⟨0, h6, Nat.le_refl _, fun f l h _ => ⟨fun ⟨j, q, _⟩ => by omega, fun ⟨j, q, _⟩ => by omega⟩⟩⟩ ?_ ?_
  · rintro fl i s hi ⟨a1, a2, a3, a4⟩
    left
    have hb : RB n k z s Sm := h.of (a1.mono (by decide)).bs bsM.rf
    obtain ⟨⟨x7, x8, x9, x10, x11, x12⟩, w, v, st, re⟩ := hb.1.2.2.2 i hi
    by_cases c : Sm 6 i = 0
    · have c' : ¬ s 12 i = 1 := by rw [x12, c]; decide
      have e1 : hfW Sm i = 6 := by unfold hfW; rw [if_pos c]
      have e2 : beY Sm i = 4 := by unfold beY; rw [if_pos c]
      obtain ⟨S1, b1, b2, b3, b4, b5⟩ := p_heads (i := i) (by omega) a3 a4 (by omega) 6 4
      obtain ⟨S2, d1, d2, d3, d4, d5⟩ := p_stem (i := i) (by omega) b4 b5 (by omega)
      rw [b2 7 (by decide), b2 9 (by decide), b2 11 (by decide), x7, x9, x11] at d4
      rw [b2 7 (by decide), b2 8 (by decide), b2 11 (by decide), x7, x8, x11] at d5
      refine ⟨S2, ⟨((a1.tr b2).tr d2).mono (by decide), fun q hq => ⟨by rw [(d3 q hq).1, (b3 q hq).1, (a2 q hq).1], by rw [(d3 q hq).2, (b3 q hq).2, (a2 q hq).2]⟩, d4.mn (by omega) (fun f l x _ => ?_), d5.mn (by omega) (fun f l x _ => ?_)⟩, by simp only [u_X5_coverItems_2, hb.1.1, if_neg (nI_ge hi (by omega)), gA_nI (show i < 40 by omega) (by decide), nI_clamp (show i < 2 ^ 31 by omega), if_neg c', b1, clv_rv, d1, nI_1]⟩
      · rw [ex_succ]
        unfold RTi
        rw [e1, e2, show hdY Sm 1 i = Sm 3 i from rfl, or_assoc]
      · rw [ex_succ]
        unfold RTi
        rw [e1, e2, show hdY Sm (-1) i = -(Sm 2 i) from rfl, or_assoc]
    · obtain ⟨c1, c5⟩ := re.resolve_left c
      have c' : s 12 i = 1 := by rw [x12, c1]
      have e1 : hfW Sm i = 5 := by unfold hfW; rw [if_neg c]
      have e2 : beY Sm i = 8 := by unfold beY; rw [if_neg c]
      obtain ⟨S1, b1, b2, b3, b4, b5⟩ := p_heads (i := i) (by omega) a3 a4 (by omega) 5 8
      refine ⟨S1, ⟨(a1.tr b2).mono (by decide), fun q hq => ⟨by rw [(b3 q hq).1, (a2 q hq).1], by rw [(b3 q hq).2, (a2 q hq).2]⟩, b4.mn (by omega) (fun f l x _ => ?_), b5.mn (by omega) (fun f l x _ => ?_)⟩, by simp only [u_X5_coverItems_2, hb.1.1, if_neg (nI_ge hi (by omega)), gA_nI (show i < 40 by omega) (by decide), nI_clamp (show i < 2 ^ 31 by omega), if_pos c', b1, clv_rv, nI_1]⟩
      · rw [ex_succ]
        unfold RTi
        rw [e1, e2, show hdY Sm 1 i = Sm 3 i from rfl, x9, x7, c5]
        exact or_congr Iff.rfl ⟨fun q => q.elim id (fun q => absurd q.1 (by decide)), Or.inl⟩
      · rw [ex_succ]
        unfold RTi
        rw [e1, e2, show hdY Sm (-1) i = -(Sm 2 i) from rfl, x8, x7, c5]
        exact or_congr Iff.rfl ⟨fun q => q.elim id (fun q => absurd q.1 (by decide)), Or.inl⟩
  · rintro fl s ⟨a1, a2, a3, a4⟩
    have e : s 1 6 = nI n := by rw [a1 1 (by decide)]; exact h.1.1
    exact ⟨s, by simp only [u_X5_coverItems_2, e, if_pos (nI_le (Nat.le_refl n) (by omega))], a1, a2, a3, a4⟩
theorem RB.hdY_le {n k z : Nat} {S Sm : XS} (h : RB n k z S Sm) {i : Nat} (hi : i < n) {s : Int32} (hs : sdP s) : -60 ≤ (hdY Sm s i).toInt ∧ (hdY Sm s i).toInt ≤ 60 := by
  obtain ⟨-, ⟨-, w2, w3⟩, -⟩ := h.1.2.2.2 i hi
  have w2 := wi_int.mp w2
  have w3 := wi_int.mp w3
  have c1 : (60 : Int32).toInt = 60 := rfl
  have c2 : (-60 : Int32).toInt = -60 := rfl
  have c0 : (0 : Int32).toInt = 0 := rfl
  rcases hs with e | e
  · rw [e, show hdY Sm 1 i = Sm 3 i from rfl]
    omega
  · rw [e, show hdY Sm (-1) i = -(Sm 2 i) from rfl, ← Int32.zero_sub, sub_toInt (by omega) (by omega)]
    omega
theorem J.zero {n k z : Nat} {S Sm : XS} (h : RB n k z S Sm) (k5 : skyI S 5 (2 * n) (fun f l h => ∃ j, j < n ∧ RTi Sm 1 j f l h)) (k6 : skyI S 6 (2 * n) (fun f l h => ∃ j, j < n ∧ RTi Sm (-1) j f l h)) (o5 : S 5 5 = 0) (o6 : S 6 5 = 0) (r5 : ∀ kd, kd < 10 → S 34 kd = -100003) (r6 : ∀ kd, kd < 10 → S 38 kd = -100003) (hl : ∀ j, j < k → Sm 13 j = 0) (hr : ∀ j, j < 20 → Sm 22 j = 0) (hz : Sm 0 26 = 0) : J n k z 0 0 S Sm := by
  have hRT : ∀ s f l x, RT n n 0 k Sm s f l x ↔ ∃ j, j < n ∧ RTi Sm s j f l x := by
    intro s f l x
    constructor
    · rintro (q | ⟨j, q, _⟩ | ⟨j, q, _, w, _⟩)
      · exact q
      · omega
      · exact absurd (hl j q) w
    · exact Or.inl
  have hOT : ∀ s x, ¬ OT n 0 k Sm s x := by
    rintro s x (⟨j, q, _⟩ | ⟨j, q, _, w, _⟩)
    · omega
    · exact absurd (hl j q) w
  refine ⟨h, ⟨hz, Nat.zero_le _⟩, ?_, fun j q => absurd q (by omega), ?_, ?_⟩
  · rintro s c (⟨rfl, rfl⟩ | ⟨rfl, rfl⟩)
    · exact ⟨k5.mn (by omega) (fun f l x _ => hRT _ f l x), by rw [o5]; exact ⟨Int32.le_refl _, fun x q => absurd q (hOT _ _), Or.inl rfl⟩⟩
    · exact ⟨k6.mn (by omega) (fun f l x _ => hRT _ f l x), by rw [o6]; exact ⟨Int32.le_refl _, fun x q => absurd q (hOT _ _), Or.inl rfl⟩⟩
  · intro s hs f l x q
    obtain ⟨j, hj, w⟩ := (hRT s f l x).mp q
    have hd := h.hdY_le hj hs
    have c4 : (4 : Int32).toInt = 4 := rfl
    have c8 : (8 : Int32).toInt = 8 := rfl
    have c28 : (28 : Int32).toInt = 28 := rfl
    rcases w with ⟨-, -, e⟩ | ⟨-, -, -, e⟩
    · rw [e]
      unfold beY
      split
      · rw [add_toInt (by omega) (by omega)]
        omega
      · rw [add_toInt (by omega) (by omega)]
        omega
    · rw [e, add_toInt (by omega) (by omega)]
      omega
  · have hrw : ∀ s kd, kd < 10 → rwI s kd < 20 := by
      intro s kd hkd
      unfold rwI
      split <;> omega
    rintro s c kd (⟨rfl, rfl⟩ | ⟨rfl, rfl⟩) hkd
    · rw [hr _ (hrw _ _ hkd), if_pos rfl]
      exact r5 kd hkd
    · rw [hr _ (hrw _ _ hkd), if_pos rfl]
      exact r6 kd hkd
/-- a slur is laid by the reference -/
def mSl (Sm : XS) (j : Nat) (v : Int32) : XS := up2 (up2 Sm 21 j v) 0 26 (nI (j + 1))
theorem mSl_21 {Sm : XS} {j i : Nat} {v : Int32} : mSl Sm j v 21 i = if i = j then v else Sm 21 i := by
  unfold mSl
  simp only [up2_at]
  rfl
theorem RT_slur {n z0 k : Nat} {Sm : XS} {v s f l h : Int32} : RT n n (z0 + 1) k (mSl Sm z0 v) s f l h ↔ RT n n z0 k Sm s f l h ∨ (Sm 19 z0 = s ∧ f = Sm 1 (Sm 17 z0).toNatClampNeg ∧ l = Sm 1 (Sm 18 z0).toNatClampNeg ∧ h = v + Sm 20 z0 + 3) := by
  constructor
  · rintro (q | ⟨i, q1, q2, q3, q4, q5⟩ | q)
    · exact Or.inl (Or.inl q)
    · rw [mSl_21] at q5
      by_cases e : i = z0
      · subst e
        rw [if_pos rfl] at q5
        exact Or.inr ⟨q2, q3, q4, q5⟩
      · rw [if_neg e] at q5
        exact Or.inl (Or.inr (Or.inl ⟨i, by omega, q2, q3, q4, q5⟩))
    · exact Or.inl (Or.inr (Or.inr q))
  · rintro ((q | ⟨i, q1, q2, q3, q4, q5⟩ | q) | ⟨q2, q3, q4, q5⟩)
    · exact Or.inl q
    · exact Or.inr (Or.inl ⟨i, by omega, q2, q3, q4, by rw [mSl_21, if_neg (by omega)]; exact q5⟩)
    · exact Or.inr (Or.inr q)
    · exact Or.inr (Or.inl ⟨z0, by omega, q2, q3, q4, by rw [mSl_21, if_pos rfl]; exact q5⟩)
theorem OT_slur {n z0 k : Nat} {Sm : XS} {v s h : Int32} : OT n (z0 + 1) k (mSl Sm z0 v) s h ↔ OT n z0 k Sm s h ∨ (Sm 19 z0 = s ∧ h = v + Sm 20 z0) := by
  constructor
  · rintro (⟨i, q1, q2, q5⟩ | q)
    · rw [mSl_21] at q5
      by_cases e : i = z0
      · subst e
        rw [if_pos rfl] at q5
        exact Or.inr ⟨q2, q5⟩
      · rw [if_neg e] at q5
        exact Or.inl (Or.inl ⟨i, by omega, q2, q5⟩)
    · exact Or.inl (Or.inr q)
  · rintro ((⟨i, q1, q2, q5⟩ | q) | ⟨q2, q5⟩)
    · exact Or.inl ⟨i, by omega, q2, by rw [mSl_21, if_neg (by omega)]; exact q5⟩
    · exact Or.inr q
    · exact Or.inl ⟨z0, by omega, q2, by rw [mSl_21, if_pos rfl]; exact q5⟩
theorem bsM_sl {Sm : XS} {j : Nat} {v : Int32} : bsM Sm (mSl Sm j v) := ⟨rfl, rfl, rfl, rfl, rfl, rfl, rfl, rfl, rfl, rfl, rfl, rfl, rfl, rfl, rfl, rfl, rfl, rfl, rfl⟩
theorem J.slur {n k z z0 : Nat} {S Sm : XS} (h : J n k z z0 0 S Sm) (hz : z0 < z) : ∃ S' v, (∀ fl, b_X5_laySlurs_2 (fl + 1) [(0, .inr 0), (1, .inl (nI z0))] [] S = b_X5_laySlurs_2 fl [(0, .inr 0), (1, .inl (nI (z0 + 1)))] [] S') ∧ (∀ fl, b_X6_place_66 (fl + 1) [(0, .inr 0)] [] Sm = b_X6_place_66 fl [(0, .inr 0)] [] (mSl Sm z0 v)) ∧ J n k z (z0 + 1) 0 S' (mSl Sm z0 v) ∧ fr [5, 6, 29, 30, 31, 32, 33, 35, 36, 37] S S' := by
  have h10 := h.1.z10
  have h40 := h.1.n40
  obtain ⟨⟨x25, x26, x27, x28⟩, ⟨f0, q1, q2⟩, ⟨l0, q3, q4⟩, q5, q6⟩ := h.1.2.2.2.2.2.2 z0 hz
  have q6 := wi_int.mp q6
  have c1 : (1 : Int32).toInt = 1 := rfl
  have c20 : (20 : Int32).toInt = 20 := rfl
  have c3 : (3 : Int32).toInt = 3 := rfl
  obtain ⟨c, hc⟩ := SC_of (show sdP (Sm 19 z0) from q5)
  obtain ⟨hsk, hou⟩ := h.2.2.1 _ c hc
  obtain ⟨r, g1, g2, g3, g4⟩ := h.great (by omega) hc (Sm 1 f0) (Sm 1 l0)
  have tr3 : (3 + r).toInt = 3 + r.toInt := by rw [add_toInt (by omega) (by omega), c3]
  have tv : (3 + r + Sm 20 z0).toInt = 3 + r.toInt + (Sm 20 z0).toInt := by rw [add_toInt (by omega) (by omega), tr3]
  have tw : (3 + r + Sm 20 z0 + 3).toInt = 6 + r.toInt + (Sm 20 z0).toInt := by rw [add_toInt (by omega) (by omega), tv, c3]; omega
  have hcc : c = 5 ∨ c = 6 := by rcases hc with ⟨-, rfl⟩ | ⟨-, rfl⟩ <;> simp
  have hS1 : fr [29, 30] S (up2 (up2 S 29 z0 (3 + r)) 30 z0 (3 + r + Sm 20 z0)) := ((fr.up (l := [29]) (by simp)).tr (fr.up (l := [30]) (by simp))).mono (by decide)
  have v29 : ∀ i, up2 (up2 S 29 z0 (3 + r)) 30 z0 (3 + r + Sm 20 z0) 29 i = if i = z0 then 3 + r else S 29 i := fun i => by simp only [up2_at]; rfl
  have v30 : ∀ i, up2 (up2 S 29 z0 (3 + r)) 30 z0 (3 + r + Sm 20 z0) 30 i = if i = z0 then 3 + r + Sm 20 z0 else S 30 i := fun i => by simp only [up2_at]; rfl
  have hX : ∀ fl, b_X5_laySlurs_2 (fl + 1) [(0, .inr 0), (1, .inl (nI z0))] [] S = clv (m_X3_cover [.inr c, .inl (Sm 1 f0), .inl (Sm 1 l0), .inl (3 + r + Sm 20 z0 + 3)] (up2 (up2 S 29 z0 (3 + r)) 30 z0 (3 + r + Sm 20 z0))) (fun S3 => clv (m_X3_reachOut [.inr c, .inl (3 + r + Sm 20 z0)] S3) (fun S4 => b_X5_laySlurs_2 fl [(0, .inr 0), (1, .inl (nI (z0 + 1)))] [] S4)) := by
    intro fl
    rw [u_X5_laySlurs_2, h.1.2.2.2.1, if_neg (nI_ge hz (by omega)), gA_nI (show z0 < 10 by omega) (by decide), nI_clamp (show z0 < 2 ^ 31 by omega), x27]
    rw [p_out hc]
    rcases hc with ⟨-, rfl⟩ | ⟨-, rfl⟩
    · rw [if_pos rfl]
      simp only [gA_nI (show z0 < 10 by omega) (show 10 < 2 ^ 31 by decide), x25, x26, x28, q2, q4, nI_clamp (show f0 < 2 ^ 31 by omega), nI_clamp (show l0 < 2 ^ 31 by omega), gA_nI (show f0 < 40 by omega) (show 40 < 2 ^ 31 by decide), gA_nI (show l0 < 40 by omega) (show 40 < 2 ^ 31 by decide), h.1.x q1, h.1.x q3, g1, cli_ri, Int32.add_comm r 3, nI_1]
    · rw [if_neg (by decide)]
      simp only [gA_nI (show z0 < 10 by omega) (show 10 < 2 ^ 31 by decide), x25, x26, x28, q2, q4, nI_clamp (show f0 < 2 ^ 31 by omega), nI_clamp (show l0 < 2 ^ 31 by omega), gA_nI (show f0 < 40 by omega) (show 40 < 2 ^ 31 by decide), gA_nI (show l0 < 40 by omega) (show 40 < 2 ^ 31 by decide), h.1.x q1, h.1.x q3, g1, cli_ri, Int32.add_comm r 3, nI_1]
  have hM : ∀ fl, b_X6_place_66 (fl + 1) [(0, .inr 0)] [] Sm = b_X6_place_66 fl [(0, .inr 0)] [] (mSl Sm z0 (3 + r)) := by
    intro fl
    rw [u_X6_place_66, h.1.2.2.2.2.1, h.2.1.1, if_neg (nI_ge hz (by omega))]
    simp only [gA_nI (show z0 < 10 by omega) (show 10 < 2 ^ 31 by decide), nI_clamp (show z0 < 2 ^ 31 by omega), q2, q4, nI_clamp (show f0 < 2 ^ 31 by omega), nI_clamp (show l0 < 2 ^ 31 by omega), gA_nI (show f0 < 40 by omega) (show 40 < 2 ^ 31 by decide), gA_nI (show l0 < 40 by omega) (show 40 < 2 ^ 31 by decide), g2, cli_ri, up2_o _ _ (show (0 : Nat) ≠ 21 by decide), h.2.1.1, nI_1]
    rfl
  generalize up2 (up2 S 29 z0 (3 + r)) 30 z0 (3 + r + Sm 20 z0) = S1 at hX hS1 v29 v30
  have hsk1 : skyI S1 c (2 * n + z0 + 0) (RT n n z0 k Sm (Sm 19 z0)) := hsk.of (by rw [hS1 c (by simp; omega)]) (hS1 _ (by simp; omega)) (hS1 _ (by simp; omega)) (hS1 _ (by simp; omega)) (Nat.le_refl _) (fun _ _ _ _ => Iff.rfl)
  obtain ⟨S2, k1, k2, k3, k4⟩ := p_covers hc hsk1 (by omega) (Sm 1 f0) (Sm 1 l0) (3 + r + Sm 20 z0 + 3)
  have hX2 : ∀ fl, b_X5_laySlurs_2 (fl + 1) [(0, .inr 0), (1, .inl (nI z0))] [] S = b_X5_laySlurs_2 fl [(0, .inr 0), (1, .inl (nI (z0 + 1)))] [] (up2 S2 c 5 (if S2 c 5 < 3 + r + Sm 20 z0 then 3 + r + Sm 20 z0 else S2 c 5)) := by
    intro fl
    rw [hX fl, k1, clv_rv, p_reach hc, clv_rv]
  have f12 : fr [29, 30, c, 4 * c + 11, 4 * c + 12, 4 * c + 13] S (up2 S2 c 5 (if S2 c 5 < 3 + r + Sm 20 z0 then 3 + r + Sm 20 z0 else S2 c 5)) := ((hS1.tr k2).tr (fr.up (l := [c]) (by simp))).mono (fun a ha => by simp at ha ⊢; omega)
  have g5 : up2 S2 c 5 (if S2 c 5 < 3 + r + Sm 20 z0 then 3 + r + Sm 20 z0 else S2 c 5) c 5 = if S c 5 < 3 + r + Sm 20 z0 then 3 + r + Sm 20 z0 else S c 5 := by rw [up2_s, k3 5 (by decide), hS1 c (by simp; omega)]
  have g4' : up2 S2 c 5 (if S2 c 5 < 3 + r + Sm 20 z0 then 3 + r + Sm 20 z0 else S2 c 5) c 4 = S2 c 4 := up2_n _ (by decide)
  have gk : ∀ a, a ≠ c → up2 S2 c 5 (if S2 c 5 < 3 + r + Sm 20 z0 then 3 + r + Sm 20 z0 else S2 c 5) a = S2 a := fun a ha => by funext i; exact up2_o _ _ ha
  generalize up2 S2 c 5 (if S2 c 5 < 3 + r + Sm 20 z0 then 3 + r + Sm 20 z0 else S2 c 5) = S' at hX2 f12 g5 g4' gk
  have fall : fr [5, 6, 29, 30, 31, 32, 33, 35, 36, 37] S S' := f12.mono (fun a ha => by simp at ha ⊢; omega)
  have hf0 : (Sm 17 z0).toNatClampNeg = f0 := by rw [q2, nI_clamp (by omega)]
  have hl0 : (Sm 18 z0).toNatClampNeg = l0 := by rw [q4, nI_clamp (by omega)]
  refine ⟨S', 3 + r, hX2, hM, ?_, fall⟩
  refine ⟨h.1.of (fall.mono (by decide)).bs bsM_sl, ⟨rfl, by omega⟩, fun s' c' hc' => ?_, fun i hi => ?_, fun s' hs' f l x hx => ?_, fun s' c' kd hc' hkd => ?_⟩
  · obtain ⟨u1, u2⟩ := h.2.2.1 s' c' hc'
    by_cases e : c' = c
    · subst e
      have es : s' = Sm 19 z0 := by
        rcases hc with ⟨x1, x2⟩ | ⟨x1, x2⟩ <;> rcases hc' with ⟨y1, y2⟩ | ⟨y1, y2⟩
        · rw [x1, y1]
        · omega
        · omega
        · rw [x1, y1]
      subst es
      refine ⟨k4.of g4' (gk _ (by omega)) (gk _ (by omega)) (gk _ (by omega)) (by omega) (fun f l x _ => ?_), ?_⟩
      · rw [RT_slur, hf0, hl0]
        exact or_congr Iff.rfl ⟨fun w => w.2, fun w => ⟨rfl, w⟩⟩
      · rw [g5]
        exact isX_add' u2 (fun x => by rw [OT_slur]; exact or_congr Iff.rfl ⟨fun w => w.2, fun w => ⟨rfl, w⟩⟩)
    · have es : ¬ Sm 19 z0 = s' := by
        intro es
        rcases hc with ⟨x1, x2⟩ | ⟨x1, x2⟩ <;> rcases hc' with ⟨y1, y2⟩ | ⟨y1, y2⟩
        · omega
        · rw [x1, y1] at es; exact absurd es (by decide)
        · rw [x1, y1] at es; exact absurd es (by decide)
        · omega
      have hcc' : c' = 5 ∨ c' = 6 := by rcases hc' with ⟨-, rfl⟩ | ⟨-, rfl⟩ <;> simp
      refine ⟨u1.of (by rw [f12 c' (by simp; omega)]) (f12 _ (by simp; omega)) (f12 _ (by simp; omega)) (f12 _ (by simp; omega)) (by omega) (fun f l x _ => ?_), ?_⟩
      · rw [RT_slur]
        exact ⟨fun w => w.elim id (fun w => absurd w.1 es), Or.inl⟩
      · rw [f12 c' (by simp; omega)]
        exact isX_cg u2 (fun x => by rw [OT_slur]; exact ⟨Or.inl, fun w => w.elim id (fun w => absurd w.1 es)⟩)
  · have e29 : S' 29 i = if i = z0 then 3 + r else S 29 i := by rw [gk 29 (by omega), k2 29 (by simp; omega)]; exact v29 i
    have e30 : S' 30 i = if i = z0 then 3 + r + Sm 20 z0 else S 30 i := by rw [gk 30 (by omega), k2 30 (by simp; omega)]; exact v30 i
    rw [e29, e30, mSl_21]
    by_cases e : i = z0
    · subst e
      rw [if_pos rfl, if_pos rfl, if_pos rfl]
      exact ⟨rfl, rfl⟩
    · rw [if_neg e, if_neg e, if_neg e]
      exact h.2.2.2.1 i (by omega)
  · rcases RT_slur.mp hx with w | w
    · have := h.2.2.2.2.1 s' hs' f l x w
      omega
    · rw [w.2.2.2, tw]
      omega
  · have hcc' : c' = 5 ∨ c' = 6 := by rcases hc' with ⟨-, rfl⟩ | ⟨-, rfl⟩ <;> simp
    rw [fall _ (by simp; omega)]
    exact h.2.2.2.2.2 s' c' kd hc' hkd
theorem J.slurs {n k z : Nat} : ∀ (d z0 fl fl' : Nat) (S Sm : XS), z0 + d = z → d < fl → d < fl' → J n k z z0 0 S Sm → ∃ S' Sm', b_X5_laySlurs_2 fl [(0, .inr 0), (1, .inl (nI z0))] [] S = rv S' ∧ b_X6_place_66 fl' [(0, .inr 0)] [] Sm = b_X6_place_146 fu [(0, .inr 0), (1, .inl 0), (2, .inl 1)] [] Sm' ∧ J n k z z 0 S' Sm' ∧ fr [5, 6, 29, 30, 31, 32, 33, 35, 36, 37] S S' ∧ fr [0, 21] Sm Sm' ∧ (∀ i, i ≠ 26 → Sm' 0 i = Sm 0 i) := by
  intro d
  induction d with
  | zero =>
    intro z0 fl fl' S Sm h1 h2 h3 h
    obtain ⟨fl, rfl⟩ : ∃ q, fl = q + 1 := ⟨fl - 1, by omega⟩
    obtain ⟨fl', rfl⟩ : ∃ q, fl' = q + 1 := ⟨fl' - 1, by omega⟩
    have h10 := h.1.z10
    have e : z0 = z := by omega
    subst e
    exact ⟨S, Sm, by rw [u_X5_laySlurs_2, h.1.2.2.2.1, if_pos (nI_le (Nat.le_refl _) (by omega))], by rw [u_X6_place_66, h.1.2.2.2.2.1, h.2.1.1, if_pos (nI_le (Nat.le_refl _) (by omega))], h, fr.rf, fr.rf, fun _ _ => rfl⟩
  | succ d ih =>
    intro z0 fl fl' S Sm h1 h2 h3 h
    obtain ⟨fl, rfl⟩ : ∃ q, fl = q + 1 := ⟨fl - 1, by omega⟩
    obtain ⟨fl', rfl⟩ : ∃ q, fl' = q + 1 := ⟨fl' - 1, by omega⟩
    obtain ⟨S1, v, e1, e2, h', f1⟩ := h.slur (by omega)
    obtain ⟨S', Sm', g1, g2, g3, g4, g5, g6⟩ := ih (z0 + 1) fl fl' S1 _ (by omega) (by omega) (by omega) h'
    refine ⟨S', Sm', by rw [e1, g1], by rw [e2, g2], g3, (f1.tr g4).mono (by decide), ?_, fun i hi => ?_⟩
    · exact (((fr.up (l := [21]) (by simp)).tr (fr.up (l := [0]) (by simp))).tr g5).mono (by decide)
    · rw [g6 i hi]
      unfold mSl
      rw [up2_n _ hi, up2_o _ _ (by decide)]
/-- the reference begins -/
theorem q_place {Sm : XS} {k : Nat} (hk : Sm 0 9 = nI k) (h80 : k ≤ 80) : ∃ Sm', m_X6_place [.inr 0] Sm = b_X6_place_66 fu [(0, .inr 0)] [] Sm' ∧ fr [0, 13, 15, 22] Sm Sm' ∧ (∀ i, i ≠ 0 → i ≠ 26 → i ≠ 19 → Sm' 0 i = Sm 0 i) ∧ Sm' 0 26 = 0 ∧ Sm' 0 19 = 0 ∧ (∀ j, j < k → Sm' 13 j = 0 ∧ Sm' 15 j = 0) ∧ (∀ j, j < 20 → Sm' 22 j = 0) := by
  have h47 : ∀ S1 : XS, ∃ S2, b_X6_place_47 fu [(0, .inr 0), (1, .inl 0)] [] S1 = b_X6_place_66 fu [(0, .inr 0)] [] S2 ∧ fr [22] S1 S2 ∧ ∀ j, j < 20 → S2 22 j = 0 := by
    intro S1
    refine lp0 (b := fun fl i (s : XS) => b_X6_place_47 fl [(0, .inr 0), (1, .inl (nI i))] [] s) (N := 20) (by omega) (fun i s => fr [22] S1 s ∧ ∀ j, j < i → s 22 j = 0) (fun o => ∃ S2, o = b_X6_place_66 fu [(0, .inr 0)] [] S2 ∧ fr [22] S1 S2 ∧ ∀ j, j < 20 → S2 22 j = 0) ⟨fr.rf, fun j q => absurd q (by omega)⟩ ?_ ?_
    · rintro fl i s hi ⟨a1, a2⟩
      left
      have n1 : ¬ (20 : Int32) ≤ nI i := by rw [show (20 : Int32) = nI 20 from rfl]; exact nI_ge hi (by omega)
      refine ⟨up2 s 22 i 0, ⟨(a1.tr (fr.up (l := [22]) (by simp))).mono (by decide), fun j q => ?_⟩, by simp only [u_X6_place_47, if_neg n1, gA_nI (show i < 20 by omega) (by decide), nI_clamp (show i < 2 ^ 31 by omega), nar0, nI_1]⟩
      rw [up2_at, if_pos rfl]
      by_cases e : j = i
      · rw [if_pos e]
      · rw [if_neg e]
        exact a2 j (by omega)
    · rintro fl s ⟨a1, a2⟩
      exact ⟨s, by simp only [u_X6_place_47, if_pos (show (20 : Int32) ≤ nI 20 by decide)], a1, a2⟩
  rw [u_X6_place]
  refine lp0 (b := fun fl i (s : XS) => b_X6_place_17 fl [(0, .inr 0), (1, .inl (nI i))] [] s) (N := k) (by omega) (s := up2 (up2 (up2 Sm 0 0 0) 0 26 0) 0 19 0) (fun i s => fr [0, 13, 15] Sm s ∧ (∀ i, i ≠ 0 → i ≠ 26 → i ≠ 19 → s 0 i = Sm 0 i) ∧ s 0 26 = 0 ∧ s 0 19 = 0 ∧ (∀ j, j < i → s 13 j = 0 ∧ s 15 j = 0)) (fun o => ∃ Sm', o = b_X6_place_66 fu [(0, .inr 0)] [] Sm' ∧ fr [0, 13, 15, 22] Sm Sm' ∧ (∀ i, i ≠ 0 → i ≠ 26 → i ≠ 19 → Sm' 0 i = Sm 0 i) ∧ Sm' 0 26 = 0 ∧ Sm' 0 19 = 0 ∧ (∀ j, j < k → Sm' 13 j = 0 ∧ Sm' 15 j = 0) ∧ (∀ j, j < 20 → Sm' 22 j = 0)) ⟨(((fr.up (l := [0]) (by simp)).tr (fr.up (l := [0]) (by simp))).tr (fr.up (l := [0]) (by simp))).mono (by decide), fun i h1 h2 h3 => by rw [up2_n _ h3, up2_n _ h2, up2_n _ h1], rfl, rfl, fun j q => absurd q (by omega)⟩ ?_ ?_
  · rintro fl i s hi ⟨a1, a2, a3, a4, a5⟩
    left
    have e9 : s 0 9 = nI k := by rw [a2 9 (by decide) (by decide) (by decide)]; exact hk
    refine ⟨up2 (up2 s 13 i 0) 15 i 0, ⟨((a1.tr (fr.up (l := [13]) (by simp))).tr (fr.up (l := [15]) (by simp))).mono (by decide), fun q h1 h2 h3 => by rw [up2_o _ _ (show (0 : Nat) ≠ 15 by decide), up2_o _ _ (show (0 : Nat) ≠ 13 by decide)]; exact a2 q h1 h2 h3, by rw [up2_o _ _ (show (0 : Nat) ≠ 15 by decide), up2_o _ _ (show (0 : Nat) ≠ 13 by decide)]; exact a3, by rw [up2_o _ _ (show (0 : Nat) ≠ 15 by decide), up2_o _ _ (show (0 : Nat) ≠ 13 by decide)]; exact a4, fun j q => ?_⟩, by simp only [u_X6_place_17, e9, if_neg (nI_ge hi (by omega)), gA_nI (show i < 80 by omega) (by decide), nI_clamp (show i < 2 ^ 31 by omega), nar0, nI_1]⟩
    rw [up2_o _ _ (show (13 : Nat) ≠ 15 by decide), up2_at, if_pos rfl, up2_at, if_pos rfl, up2_o _ _ (show (15 : Nat) ≠ 13 by decide)]
    by_cases e : j = i
    · rw [if_pos e, if_pos e]
      exact ⟨rfl, rfl⟩
    · rw [if_neg e, if_neg e]
      exact a5 j (by omega)
  · rintro fl s ⟨a1, a2, a3, a4, a5⟩
    have e9 : s 0 9 = nI k := by rw [a2 9 (by decide) (by decide) (by decide)]; exact hk
    obtain ⟨S2, b1, b2, b3⟩ := h47 s
    refine ⟨S2, by simp only [u_X6_place_17, e9, if_pos (nI_le (Nat.le_refl k) (by omega)), b1], (a1.tr b2).mono (by decide), fun i h1 h2 h3 => by rw [b2 0 (by decide)]; exact a2 i h1 h2 h3, by rw [b2 0 (by decide)]; exact a3, by rw [b2 0 (by decide)]; exact a4, fun j q => by rw [b2 13 (by decide), b2 15 (by decide)]; exact a5 j q, b3⟩
