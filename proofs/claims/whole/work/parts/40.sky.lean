/-! PURE PART: the greatest of heights. -/
/-- r is the greatest of d and T's -/
def isX (d : Int32) (T : Int32 → Prop) (r : Int32) : Prop := d ≤ r ∧ (∀ h, T h → h ≤ r) ∧ (r = d ∨ T r)
theorem isX_un {d : Int32} {T T' : Int32 → Prop} {r r' : Int32} (h : isX d T r) (h' : isX d T' r') (ht : ∀ h, d < h → (T h ↔ T' h)) : r = r' := by
  obtain ⟨a1, a2, a3⟩ := h
  obtain ⟨b1, b2, b3⟩ := h'
  have k1 : r ≤ r' := by
    rcases a3 with e | e
    · rw [e]; exact b1
    · by_cases q : d < r
      · exact b2 _ ((ht r q).mp e)
      · rw [Int32.not_lt] at q
        exact Int32.le_trans q b1
  have k2 : r' ≤ r := by
    rcases b3 with e | e
    · rw [e]; exact a1
    · by_cases q : d < r'
      · exact a2 _ ((ht r' q).mpr e)
      · rw [Int32.not_lt] at q
        exact Int32.le_trans q a1
  exact Int32.le_antisymm k1 k2
theorem isX_cg {d : Int32} {T T' : Int32 → Prop} {r : Int32} (h : isX d T r) (ht : ∀ h, T h ↔ T' h) : isX d T' r :=
  ⟨h.1, fun x q => h.2.1 x ((ht x).mpr q), h.2.2.imp id (ht r).mp⟩
theorem isX_add {d : Int32} {T T' : Int32 → Prop} {r h : Int32} (hx : isX d T r) (ht : ∀ x, T' x ↔ T x ∨ x = h) : isX d T' (if h ≤ r then r else h) := by
  obtain ⟨a1, a2, a3⟩ := hx
  by_cases q : h ≤ r
  · rw [if_pos q]
    refine ⟨a1, fun x w => ?_, a3.imp id (fun w => (ht r).mpr (Or.inl w))⟩
    rcases (ht x).mp w with v | v
    · exact a2 x v
    · rw [v]; exact q
  · rw [if_neg q]
    rw [Int32.not_le] at q
    have q' := Int32.le_of_lt q
    refine ⟨Int32.le_trans a1 q', fun x w => ?_, Or.inr ((ht h).mpr (Or.inr rfl))⟩
    rcases (ht x).mp w with v | v
    · exact Int32.le_trans (a2 x v) q'
    · rw [v]; exact Int32.le_refl _
theorem isX_add' {d : Int32} {T T' : Int32 → Prop} {r h : Int32} (hx : isX d T r) (ht : ∀ x, T' x ↔ T x ∨ x = h) : isX d T' (if r < h then h else r) := by
  have := isX_add hx ht
  by_cases q : h ≤ r
  · rw [if_pos q] at this
    rw [if_neg (by rw [Int32.not_lt]; exact q)]
    exact this
  · rw [if_neg q] at this
    rw [Int32.not_le] at q
    rw [if_pos q]
    exact this
theorem isX_le {d : Int32} {T : Int32 → Prop} {r : Int32} {M : Int} (hx : isX d T r) (hd : d.toInt ≤ M) (hT : ∀ h, T h → h.toInt ≤ M) : r.toInt ≤ M := by
  rcases hx.2.2 with e | e
  · rw [e]; exact hd
  · exact hT r e
/-- of things, the heights of those over a part -/
def sel (T : Int32 → Int32 → Int32 → Prop) (a b h : Int32) : Prop := ∃ f l, T f l h ∧ ¬ b < f ∧ ¬ l < a
def abv (r f l a b h : Int32) : Int32 := if b < f then r else if l < a then r else if h ≤ r then r else h
theorem q_above (S : XS) (r f l a b h : Int32) : m_X6_above [.inl r, .inl f, .inl l, .inl a, .inl b, .inl h] S = ri S (abv r f l a b h) := by
  rw [u_X6_above]
  unfold abv
  split
  · rfl
  · split
    · rfl
    · split <;> rfl
theorem abv_X {T T' : Int32 → Int32 → Int32 → Prop} {a b r f l h : Int32} (hx : isX 18 (sel T a b) r) (ht : ∀ f' l' h', T' f' l' h' ↔ T f' l' h' ∨ (f' = f ∧ l' = l ∧ h' = h)) : isX 18 (sel T' a b) (abv r f l a b h) := by
  unfold abv
  have hs : ∀ x, sel T' a b x ↔ sel T a b x ∨ (x = h ∧ ¬ b < f ∧ ¬ l < a) := by
    intro x
    constructor
    · rintro ⟨f', l', q1, q2, q3⟩
      rcases (ht _ _ _).mp q1 with w | ⟨rfl, rfl, rfl⟩
      · exact Or.inl ⟨f', l', w, q2, q3⟩
      · exact Or.inr ⟨rfl, q2, q3⟩
    · rintro (⟨f', l', q1, q2, q3⟩ | ⟨rfl, q2, q3⟩)
      · exact ⟨f', l', (ht _ _ _).mpr (Or.inl q1), q2, q3⟩
      · exact ⟨f, l, (ht _ _ _).mpr (Or.inr ⟨rfl, rfl, rfl⟩), q2, q3⟩
  by_cases c1 : b < f
  · rw [if_pos c1]
    exact isX_cg hx (fun x => by rw [hs]; exact ⟨Or.inl, fun w => w.elim id (fun v => absurd c1 v.2.1)⟩)
  · rw [if_neg c1]
    by_cases c2 : l < a
    · rw [if_pos c2]
      exact isX_cg hx (fun x => by rw [hs]; exact ⟨Or.inl, fun w => w.elim id (fun v => absurd c2 v.2.2)⟩)
    · rw [if_neg c2]
      exact isX_add hx (fun x => by rw [hs]; exact ⟨fun w => w.imp id (fun v => v.1), fun w => w.imp id (fun v => ⟨v, c1, c2⟩)⟩)
/-- blocks of an outline -/
def blk (S : XS) (c m : Nat) (f l h : Int32) : Prop := ∃ b, b < m ∧ S (4 * c + 11) b = f ∧ S (4 * c + 12) b = l ∧ S (4 * c + 13) b = h
theorem blk_succ {S : XS} {c m : Nat} {f l h : Int32} : blk S c (m + 1) f l h ↔ blk S c m f l h ∨ (f = S (4 * c + 11) m ∧ l = S (4 * c + 12) m ∧ h = S (4 * c + 13) m) := by
  unfold blk
  rw [ex_succ]
  constructor
  · rintro (q | ⟨q1, q2, q3⟩)
    · exact Or.inl q
    · exact Or.inr ⟨q1.symm, q2.symm, q3.symm⟩
  · rintro (q | ⟨q1, q2, q3⟩)
    · exact Or.inl q
    · exact Or.inr ⟨q1.symm, q2.symm, q3.symm⟩
theorem abv_x {r f l a b h : Int32} : (if b < f then r else if l < a then r else (if r < h then h else r)) = abv r f l a b h := by
  unfold abv
  split
  · rfl
  · split
    · rfl
    · by_cases q : h ≤ r
      · rw [if_pos q, if_neg (by rw [Int32.not_lt]; exact q)]
      · rw [if_neg q, if_pos (by rw [← Int32.not_le]; exact q)]
theorem p_great5 {S : XS} {m : Nat} (hm : S 5 4 = nI m) (h170 : m ≤ 170) (a b : Int32) : ∃ r, m_X3_greatest [.inr 5, .inl a, .inl b] S = ri S r ∧ isX 18 (sel (blk S 5 m) a b) r := by
  rw [u_X3_greatest_5]
  refine lp0 (b := fun fl i (r : Int32) => b_X3_greatest_6 fl [(0, .inr 5), (1, .inl a), (2, .inl b), (3, .inl r), (4, .inl (nI i))] [] S) (N := m) (by omega) (fun i r => isX 18 (sel (blk S 5 i) a b) r) (fun o => ∃ r, o = ri S r ∧ isX 18 (sel (blk S 5 m) a b) r) ⟨Int32.le_refl _, fun h ⟨f, l, ⟨j, w, _⟩, _⟩ => by omega, Or.inl rfl⟩ ?_ ?_
  · intro fl i r hi h
    left
    refine ⟨_, abv_X h (fun f l h => blk_succ), ?_⟩
    simp only [u_X3_greatest_5_6, hm, if_neg (nI_ge hi (by omega)), gA_nI (show i < 170 by omega) (by decide), nI_clamp (show i < 2 ^ 31 by omega), nI_1]
    rw [← abv_x]
    by_cases c1 : b < S 31 i
    · rw [if_pos c1, if_pos c1]
    · rw [if_neg c1, if_neg c1]
      by_cases c2 : S 32 i < a
      · rw [if_pos c2, if_pos c2]
      · rw [if_neg c2, if_neg c2]
  · intro fl r h
    exact ⟨r, by simp only [u_X3_greatest_5_6, hm, if_pos (nI_le (Nat.le_refl m) (by omega))], h⟩
theorem p_great6 {S : XS} {m : Nat} (hm : S 6 4 = nI m) (h170 : m ≤ 170) (a b : Int32) : ∃ r, m_X3_greatest [.inr 6, .inl a, .inl b] S = ri S r ∧ isX 18 (sel (blk S 6 m) a b) r := by
  rw [u_X3_greatest_6]
  refine lp0 (b := fun fl i (r : Int32) => b_X3_greatest_6 fl [(0, .inr 6), (1, .inl a), (2, .inl b), (3, .inl r), (4, .inl (nI i))] [] S) (N := m) (by omega) (fun i r => isX 18 (sel (blk S 6 i) a b) r) (fun o => ∃ r, o = ri S r ∧ isX 18 (sel (blk S 6 m) a b) r) ⟨Int32.le_refl _, fun h ⟨f, l, ⟨j, w, _⟩, _⟩ => by omega, Or.inl rfl⟩ ?_ ?_
  · intro fl i r hi h
    left
    refine ⟨_, abv_X h (fun f l h => blk_succ), ?_⟩
    simp only [u_X3_greatest_6_6, hm, if_neg (nI_ge hi (by omega)), gA_nI (show i < 170 by omega) (by decide), nI_clamp (show i < 2 ^ 31 by omega), nI_1]
    rw [← abv_x]
    by_cases c1 : b < S 35 i
    · rw [if_pos c1, if_pos c1]
    · rw [if_neg c1, if_neg c1]
      by_cases c2 : S 36 i < a
      · rw [if_pos c2, if_pos c2]
      · rw [if_neg c2, if_neg c2]
  · intro fl r h
    exact ⟨r, by simp only [u_X3_greatest_6_6, hm, if_pos (nI_le (Nat.le_refl m) (by omega))], h⟩
/-- a side and its outline -/
def SC (s : Int32) (c : Nat) : Prop := (s = 1 ∧ c = 5) ∨ (s = -1 ∧ c = 6)
theorem p_great {S : XS} {c m : Nat} {s : Int32} (hc : SC s c) (hm : S c 4 = nI m) (h170 : m ≤ 170) (a b : Int32) : ∃ r, m_X3_greatest [.inr c, .inl a, .inl b] S = ri S r ∧ isX 18 (sel (blk S c m) a b) r := by
  rcases hc with ⟨-, rfl⟩ | ⟨-, rfl⟩
  · exact p_great5 hm h170 a b
  · exact p_great6 hm h170 a b
/-! what lies where, by the reference -/
def hdY (S : XS) (s : Int32) (i : Nat) : Int32 := if s = 1 then S 3 i else -(S 2 i)
def hfW (S : XS) (i : Nat) : Int32 := if S 6 i = 0 then 6 else 5
def beY (S : XS) (i : Nat) : Int32 := if S 6 i = 0 then 4 else 8
def RTi (S : XS) (s : Int32) (i : Nat) (f l h : Int32) : Prop := (f = S 1 i - hfW S i ∧ l = S 1 i + hfW S i ∧ h = hdY S s i + beY S i) ∨ (S 5 i = s ∧ f = S 1 i - 1 ∧ l = S 1 i + 1 ∧ h = hdY S s i + 28)
def RTs (S : XS) (s : Int32) (j : Nat) (f l h : Int32) : Prop := S 19 j = s ∧ f = S 1 (S 17 j).toNatClampNeg ∧ l = S 1 (S 18 j).toNatClampNeg ∧ h = S 21 j + S 20 j + 3
def RTm (n : Nat) (S : XS) (s : Int32) (j : Nat) (f l h : Int32) : Prop := S 12 j = 0 ∧ S 13 j ≠ 0 ∧ sd n S j = s ∧ f = lf S j ∧ l = lf S j + S 10 j - 1 ∧ h = S 14 j + S 11 j
def RT (n i0 z0 k0 : Nat) (S : XS) (s f l h : Int32) : Prop := (∃ i, i < i0 ∧ RTi S s i f l h) ∨ (∃ j, j < z0 ∧ RTs S s j f l h) ∨ (∃ j, j < k0 ∧ RTm n S s j f l h)
theorem RT_i {n i : Nat} {S : XS} {s f l h : Int32} : RT n (i + 1) 0 0 S s f l h ↔ RT n i 0 0 S s f l h ∨ RTi S s i f l h := by
  unfold RT
  rw [ex_succ]
  constructor
  · rintro ((q | q) | ⟨j, w, _⟩ | ⟨j, w, _⟩)
    · exact Or.inl (Or.inl q)
    · exact Or.inr q
    · omega
    · omega
  · rintro ((q | ⟨j, w, _⟩ | ⟨j, w, _⟩) | q)
    · exact Or.inl (Or.inl q)
    · omega
    · omega
    · exact Or.inl (Or.inr q)
theorem RT_s {n i z0 : Nat} {S : XS} {s f l h : Int32} : RT n i (z0 + 1) 0 S s f l h ↔ RT n i z0 0 S s f l h ∨ RTs S s z0 f l h := by
  unfold RT
  rw [ex_succ]
  constructor
  · rintro (q | (q | q) | ⟨j, w, _⟩)
    · exact Or.inl (Or.inl q)
    · exact Or.inl (Or.inr (Or.inl q))
    · exact Or.inr q
    · omega
  · rintro ((q | q | ⟨j, w, _⟩) | q)
    · exact Or.inl q
    · exact Or.inr (Or.inl (Or.inl q))
    · omega
    · exact Or.inr (Or.inl (Or.inr q))
theorem RT_m {n i z0 k0 : Nat} {S : XS} {s f l h : Int32} : RT n i z0 (k0 + 1) S s f l h ↔ RT n i z0 k0 S s f l h ∨ RTm n S s k0 f l h := by
  unfold RT
  rw [ex_succ]
  constructor
  · rintro (q | q | q | q)
    · exact Or.inl (Or.inl q)
    · exact Or.inl (Or.inr (Or.inl q))
    · exact Or.inl (Or.inr (Or.inr q))
    · exact Or.inr q
  · rintro ((q | q | q) | q)
    · exact Or.inl q
    · exact Or.inr (Or.inl q)
    · exact Or.inr (Or.inr (Or.inl q))
    · exact Or.inr (Or.inr (Or.inr q))
theorem q_great_m {n k z : Nat} {S Sm : XS} (h : RB n k z S Sm) {z0 : Nat} {s a b r : Int32} (hr : isX 18 (sel (RT n n z0 0 Sm s) a b) r) : ∃ r', b_X6_greatest_237 fu [(0, .inr 0), (1, .inl s), (2, .inl a), (3, .inl b), (4, .inl r), (5, .inl 0)] [] Sm = ri Sm r' ∧ isX 18 (sel (RT n n z0 k Sm s) a b) r' := by
  have h80 := h.k80
  refine lp0 (b := fun fl i (r : Int32) => b_X6_greatest_237 fl [(0, .inr 0), (1, .inl s), (2, .inl a), (3, .inl b), (4, .inl r), (5, .inl (nI i))] [] Sm) (N := k) (by omega) (fun i r => isX 18 (sel (RT n n z0 i Sm s) a b) r) (fun o => ∃ r, o = ri Sm r ∧ isX 18 (sel (RT n n z0 k Sm s) a b) r) hr ?_ ?_
  · intro fl i r hi hx
    left
    have hsk : (∀ f l h, ¬ RTm n Sm s i f l h) → isX 18 (sel (RT n n z0 (i + 1) Sm s) a b) r := fun q => isX_cg hx (fun x => by
      unfold sel
      simp only [RT_m]
      constructor
      · rintro ⟨f, l, q1, q2⟩
        exact ⟨f, l, Or.inl q1, q2⟩
      · rintro ⟨f, l, q1 | q1, q2⟩
        · exact ⟨f, l, q1, q2⟩
        · exact absurd q1 (q _ _ _))
    simp only [u_X6_greatest_237, h.2.2.1.2.1, if_neg (nI_ge hi (by omega)), gA_nI (show i < 80 by omega) (by decide), nI_clamp (show i < 2 ^ 31 by omega), nI_1, h.sideOf hi, h.left hi, cli_ri, q_above]
    by_cases c1 : Sm 12 i = 0
    · by_cases c2 : Sm 13 i = 0
      · exact ⟨r, hsk (fun f l h q => q.2.1 c2), by rw [if_pos c1, if_pos c2]⟩
      · by_cases c3 : sd n Sm i = s
        · refine ⟨_, abv_X hx (fun f l h => ?_), by rw [if_pos c1, if_neg c2, if_pos c3]⟩
          rw [RT_m]
          exact ⟨fun w => w.imp id (fun v => v.2.2.2), fun w => w.imp id (fun v => ⟨c1, c2, c3, v⟩)⟩
        · exact ⟨r, hsk (fun f l h q => c3 q.2.2.1), by rw [if_pos c1, if_neg c2, if_neg c3]⟩
    · exact ⟨r, hsk (fun f l h q => c1 q.1), by rw [if_neg c1]⟩
  · intro fl r hx
    exact ⟨r, by simp only [u_X6_greatest_237, h.2.2.1.2.1, if_pos (nI_le (Nat.le_refl k) (by omega))], hx⟩
theorem q_great_s {n k z : Nat} {S Sm : XS} (h : RB n k z S Sm) {z0 : Nat} (hz : Sm 0 26 = nI z0) (hz0 : z0 ≤ z) {s a b r : Int32} (hr : isX 18 (sel (RT n n 0 0 Sm s) a b) r) : ∃ r', b_X6_greatest_158 fu [(0, .inr 0), (1, .inl s), (2, .inl a), (3, .inl b), (4, .inl r), (5, .inl 0)] [] Sm = ri Sm r' ∧ isX 18 (sel (RT n n z0 k Sm s) a b) r' := by
  have h10 := h.z10
  have h40 := h.n40
  refine lp0 (b := fun fl i (r : Int32) => b_X6_greatest_158 fl [(0, .inr 0), (1, .inl s), (2, .inl a), (3, .inl b), (4, .inl r), (5, .inl (nI i))] [] Sm) (N := z0) (by omega) (fun i r => isX 18 (sel (RT n n i 0 Sm s) a b) r) (fun o => ∃ r, o = ri Sm r ∧ isX 18 (sel (RT n n z0 k Sm s) a b) r) hr ?_ ?_
  · intro fl i r hi hx
    left
    obtain ⟨-, ⟨f0, q1, q2⟩, ⟨l0, q3, q4⟩, -⟩ := h.2.2.2.2.2.2 i (by omega)
    have hc1 : (Sm 17 i).toNatClampNeg = f0 := by rw [q2, nI_clamp (by omega)]
    have hc2 : (Sm 18 i).toNatClampNeg = l0 := by rw [q4, nI_clamp (by omega)]
    simp only [u_X6_greatest_158, hz, if_neg (nI_ge hi (by omega)), gA_nI (show i < 10 by omega) (by decide), nI_clamp (show i < 2 ^ 31 by omega), nI_1, q2, q4, nI_clamp (show f0 < 2 ^ 31 by omega), nI_clamp (show l0 < 2 ^ 31 by omega), gA_nI (show f0 < 40 by omega) (by decide), gA_nI (show l0 < 40 by omega) (by decide), q_above, cli_ri]
    by_cases c1 : Sm 19 i = s
    · refine ⟨_, abv_X hx (fun f l h => ?_), by rw [if_pos c1]⟩
      rw [RT_s]
      unfold RTs
      rw [hc1, hc2]
      exact ⟨fun w => w.imp id (fun v => v.2), fun w => w.imp id (fun v => ⟨c1, v⟩)⟩
    · refine ⟨r, isX_cg hx (fun x => ?_), by rw [if_neg c1]⟩
      unfold sel
      simp only [RT_s]
      constructor
      · rintro ⟨f, l, q1, q2⟩
        exact ⟨f, l, Or.inl q1, q2⟩
      · rintro ⟨f, l, q1 | q1, q2⟩
        · exact ⟨f, l, q1, q2⟩
        · exact absurd q1.1 c1
  · intro fl r hx
    simp only [u_X6_greatest_158, hz, if_pos (nI_le (Nat.le_refl z0) (by omega))]
    exact q_great_m h hx
theorem q_great {n k z : Nat} {S Sm : XS} (h : RB n k z S Sm) {z0 : Nat} (hz : Sm 0 26 = nI z0) (hz0 : z0 ≤ z) {s : Int32} (hs : sdP s) (a b : Int32) : ∃ r, m_X6_greatest [.inr 0, .inl s, .inl a, .inl b] Sm = ri Sm r ∧ isX 18 (sel (RT n n z0 k Sm s) a b) r := by
  have h40 := h.n40
  rw [u_X6_greatest]
  refine lp0 (b := fun fl i (r : Int32) => b_X6_greatest_7 fl [(0, .inr 0), (1, .inl s), (2, .inl a), (3, .inl b), (4, .inl r), (5, .inl (nI i))] [] Sm) (N := n) (by omega) (fun i r => isX 18 (sel (RT n i 0 0 Sm s) a b) r) (fun o => ∃ r, o = ri Sm r ∧ isX 18 (sel (RT n n z0 k Sm s) a b) r) ⟨Int32.le_refl _, fun h ⟨f, l, q, _⟩ => by rcases q with ⟨j, w, _⟩ | ⟨j, w, _⟩ | ⟨j, w, _⟩ <;> omega, Or.inl rfl⟩ ?_ ?_
  · intro fl i r hi hx
    left
    have hh : ∀ (u v : Option RS), (if s ≤ 0 then u else v) = (if s = 1 then v else u) := by
      intro u v
      rcases hs with e | e <;> subst e <;> rfl
    have hx2 := abv_X (T' := fun f l h => RT n i 0 0 Sm s f l h ∨ (f = Sm 1 i - hfW Sm i ∧ l = Sm 1 i + hfW Sm i ∧ h = hdY Sm s i + beY Sm i)) hx (fun f l h => Iff.rfl)
    simp only [u_X6_greatest_7, h.1.2.1, if_neg (nI_ge hi (by omega)), gA_nI (show i < 40 by omega) (by decide), nI_clamp (show i < 2 ^ 31 by omega), hh, u_X6_greatest_38, u_X6_greatest_100, q_above, cli_ri, nI_1]
    by_cases c5 : Sm 5 i = s
    · refine ⟨_, abv_X hx2 (T' := RT n (i + 1) 0 0 Sm s) (f := Sm 1 i - 1) (l := Sm 1 i + 1) (h := hdY Sm s i + 28) (fun f l h => ?_), ?_⟩
      · rw [RT_i]
        unfold RTi
        constructor
        · rintro (q | q | q)
          · exact Or.inl (Or.inl q)
          · exact Or.inl (Or.inr q)
          · exact Or.inr q.2
        · rintro ((q | q) | q)
          · exact Or.inl q
          · exact Or.inr (Or.inl q)
          · exact Or.inr (Or.inr ⟨c5, q⟩)
      · simp only [if_pos c5]
        unfold hdY hfW beY
        split <;> split <;> rfl
    · refine ⟨_, isX_cg hx2 (fun x => ?_), ?_⟩
      · unfold sel
        simp only [RT_i]
        unfold RTi
        constructor
        · rintro ⟨f, l, q1 | q1, q2⟩
          · exact ⟨f, l, Or.inl q1, q2⟩
          · exact ⟨f, l, Or.inr (Or.inl q1), q2⟩
        · rintro ⟨f, l, q1 | q1 | q1, q2⟩
          · exact ⟨f, l, Or.inl q1, q2⟩
          · exact ⟨f, l, Or.inr q1, q2⟩
          · exact absurd q1.1 c5
      · simp only [if_neg c5]
        unfold hdY hfW beY
        split <;> split <;> rfl
  · intro fl r hx
    simp only [u_X6_greatest_7, h.1.2.1, if_pos (nI_le (Nat.le_refl n) (by omega))]
    exact q_great_s h hz hz0 hx
