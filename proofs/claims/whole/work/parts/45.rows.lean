/-! PURE PART: rows. -/
def QF (k : Nat) (Q : List Nat) (Sm : XS) : Prop := Q.Pairwise (ahd Sm) ∧ (∀ j, j ∈ Q ↔ j < k ∧ Sm 12 j = 0) ∧ Q.length ≤ k
def KK (n k z : Nat) (Q : List Nat) (t : Nat) (S Sm : XS) : Prop := J n k z z t S Sm ∧ JM n k t S Sm ∧ (S 0 7 = nI Q.length ∧ hold (S 39) Q) ∧ QF k Q Sm
def PP (n kd : Nat) (s : Int32) (p : Nat → Bool) (Sm : XS) : Prop := ∀ j, p j = true ↔ (mK Sm j = kd ∧ sd n Sm j = s)
theorem QF.of {k : Nat} {Q : List Nat} {Sm Sm' : XS} (h : QF k Q Sm) (hb : bsM Sm Sm') : QF k Q Sm' := by
  have e12 : Sm' 12 = Sm 12 := hb.2.2.2.2.2.2.2.2.2.2.2.2.2.2.1
  unfold QF
  rw [hb.e_ahd, e12]
  exact h
theorem PP.of {n kd : Nat} {s : Int32} {p : Nat → Bool} {Sm Sm' : XS} (h : PP n kd s p Sm) (hb : bsM Sm Sm') : PP n kd s p Sm' := fun j => by
  rw [hb.e_mK, hb.e_sd]
  exact h j
theorem fr1 {c : Nat} {S S' : XS} (h : fr [c] S S') : S' = fun a => if a = c then S' c else S a := by
  funext a
  by_cases e : a = c
  · rw [if_pos e, e]
  · rw [if_neg e]
    exact h a (by simp; exact e)
theorem J.frX {n k z z0 t : Nat} {S S' Sm : XS} (h : J n k z z0 t S Sm) (f : fr [0, 19, 20, 21, 22, 23, 24, 39] S S') : J n k z z0 t S' Sm := by
  have hcc : ∀ {s c}, SC s c → c = 5 ∨ c = 6 := fun hc => by rcases hc with ⟨-, rfl⟩ | ⟨-, rfl⟩ <;> simp
  refine ⟨h.1.of (f.mono (by decide)).bs bsM.rf, h.2.1, fun s c hc => ?_, fun j hj => ?_, h.2.2.2.2.1, fun s c kd hc hkd => ?_⟩
  · have := hcc hc
    obtain ⟨u1, u2⟩ := h.2.2.1 s c hc
    exact ⟨u1.of (by rw [f c (by simp; omega)]) (f _ (by simp; omega)) (f _ (by simp; omega)) (f _ (by simp; omega)) (Nat.le_refl _) (fun _ _ _ _ => Iff.rfl), by rw [f c (by simp; omega)]; exact u2⟩
  · rw [f 29 (by decide), f 30 (by decide)]
    exact h.2.2.2.1 j hj
  · have := hcc hc
    rw [f _ (by simp; omega)]
    exact h.2.2.2.2.2 s c kd hc hkd
theorem J.fr24 {n k z z0 t : Nat} {S Sm Sm' : XS} (h : J n k z z0 t S Sm) (f : fr [24] Sm Sm') : J n k z z0 t S Sm' := by
  rw [fr1 f]
  exact h
theorem JM.fr24 {n k t : Nat} {S Sm Sm' : XS} (h : JM n k t S Sm) (f : fr [24] Sm Sm') : JM n k t S Sm' := by
  have e : ∀ (X : Nat → Int32) k, lc (fun a => if a = 24 then X else Sm a) k = lc Sm k := by
    intro X k
    induction k with
    | zero => rfl
    | succ k ih => unfold lc; rw [ih]; rfl
  rw [fr1 f]
  refine ⟨h.1, h.2.1, by rw [e]; exact h.2.2.1, h.2.2.2⟩
theorem KK.fr24 {n k z t : Nat} {Q : List Nat} {S Sm Sm' : XS} (h : KK n k z Q t S Sm) (f : fr [24] Sm Sm') : KK n k z Q t S Sm' :=
  ⟨h.1.fr24 f, h.2.1.fr24 f, h.2.2.1, h.2.2.2.of (f.bm (by decide))⟩
theorem KK.mid {n k z t : Nat} {Q P R : List Nat} {m : Nat} {S Sm : XS} (h : KK n k z Q t S Sm) (hQ : Q = P ++ m :: R) : m < k ∧ Sm 12 m = 0 ∧ S 39 P.length = nI m ∧ P.length < Q.length ∧ Q.length ≤ 80 ∧ ¬ m ∈ R := by
  have h80 := h.1.1.k80
  have hm : m ∈ Q := by rw [hQ]; exact List.mem_append_right _ List.mem_cons_self
  obtain ⟨q1, q2⟩ := (h.2.2.2.2.1 m).mp hm
  have hl := h.2.2.2.2.2
  refine ⟨q1, q2, ?_, ?_, by omega, ?_⟩
  · have := h.2.2.1.2
    rw [hQ] at this
    exact this.mid
  · rw [hQ, List.length_append, List.length_cons]
    omega
  · intro hr
    have := h.2.2.2.1
    rw [hQ, List.pairwise_append, List.pairwise_cons] at this
    exact ahd_irr (this.2.1.1 m hr)
theorem KK.isOf {n k z t : Nat} {Q : List Nat} {S Sm : XS} (h : KK n k z Q t S Sm) {kd : Nat} {s : Int32} {p : Nat → Bool} (hp : PP n kd s p Sm) (hkd : kd < 10) {j : Nat} (hj : j < k) (h0 : Sm 12 j = 0) : m_X2_isOf [.inr 3, .inl (nI j), .inl (nI kd), .inl s] S = ri S (if p j = true then 1 else 0) := by
  have h80 := h.1.1.k80
  have h10 := (h.1.1.hk hj).1
  rw [u_X2_isOf, nI_clamp (by omega), (h.1.1.hk hj).2.2, (h.2.1.2.2.2 j hj h0).2.1]
  simp only [gA_nI (show j < 80 by omega) (show 80 < 2 ^ 31 by decide), nI_eq (show mK Sm j < 2 ^ 31 by omega) (show kd < 2 ^ 31 by omega)]
  by_cases c1 : mK Sm j = kd
  · by_cases c2 : sd n Sm j = s
    · rw [if_pos c1, if_pos c2, if_pos ((hp j).mpr ⟨c1, c2⟩)]
    · rw [if_pos c1, if_neg c2, if_neg (fun q => c2 ((hp j).mp q).2)]
  · rw [if_neg c1, if_neg (fun q => c1 ((hp j).mp q).1)]
theorem JM.share {n k z t : Nat} {S Sm : XS} (h : RB n k z S Sm) (hm : JM n k t S Sm) {a b : Nat} (ha : a < k) (ha0 : Sm 12 a = 0) (hb : b < k) (hb0 : Sm 12 b = 0) : m_X2_shareX [.inr 3, .inl (nI a), .inl (nI b)] S = ri S (b01 (shr Sm a b)) := by
  have h80 := h.k80
  rw [u_X2_shareX]
  simp only [u_X2_behind, gA_nI (show a < 80 by omega) (show 80 < 2 ^ 31 by decide), gA_nI (show b < 80 by omega) (show 80 < 2 ^ 31 by decide), nI_clamp (show a < 2 ^ 31 by omega), nI_clamp (show b < 2 ^ 31 by omega), cli_ri, (hm.2.2.2 a ha ha0).1, (hm.2.2.2 b hb hb0).1, (h.m ha).1.2.2.1, (h.m hb).1.2.2.1]
  split
  · rename_i q
    rw [b01_f (fun w => by have := w.1; rw [← Int32.not_le] at this; exact this q)]
  · rename_i q
    split
    · rename_i q2
      rw [b01_f (fun w => by have := w.2; rw [← Int32.not_le] at this; exact this q2)]
    · rename_i q2
      rw [b01_t (show shr Sm a b from ⟨by rw [← Int32.not_le]; exact q, by rw [← Int32.not_le]; exact q2⟩)]
theorem pre_ix {Q P R : List Nat} {i : Nat} (hQ : Q = P ++ R) (hi : i < P.length) : P[i]? = some P[i] ∧ Q[i]? = some P[i] ∧ P[i] ∈ P := by
  refine ⟨List.getElem?_eq_getElem hi, ?_, List.getElem_mem _⟩
  rw [hQ, List.getElem?_append_left hi]
  exact List.getElem?_eq_getElem hi
theorem all_pre {P : List Nat} {c : Nat → Prop} : (∀ t o, t < P.length → P[t]? = some o → c o) ↔ ∀ o, o ∈ P → c o := by
  constructor
  · intro h o ho
    obtain ⟨t, ht⟩ := List.mem_iff_getElem?.mp ho
    exact h t o (List.getElem?_eq_some_iff.mp ht).1 ht
  · intro h t o _ q
    exact h o (List.mem_of_getElem? q)
theorem pre_succ {P : List Nat} {c : Nat → Prop} {i : Nat} (hi : i < P.length) : (∀ t o, t < i + 1 → P[t]? = some o → c o) ↔ (∀ t o, t < i → P[t]? = some o → c o) ∧ c P[i] := by
  constructor
  · intro h
    exact ⟨fun t o q w => h t o (by omega) w, h i _ (by omega) (List.getElem?_eq_getElem hi)⟩
  · rintro ⟨h1, h2⟩ t o q w
    by_cases e : t = i
    · subst e
      rw [List.getElem?_eq_getElem hi] at w
      cases Option.some.inj w
      exact h2
    · exact h1 t o (by omega) w
theorem KK.free {n k z t : Nat} {Q P R : List Nat} {m : Nat} {S Sm : XS} (h : KK n k z Q t S Sm) (hQ : Q = P ++ m :: R) {p : Nat → Bool} (hp : PP n (mK Sm m) (sd n Sm m) p Sm) : m_X5_isFreeInRow [.inr 0, .inl (nI P.length)] S = ri S (b01 (∀ o, o ∈ P → p o = true → Sm 15 o ≠ 0 → ¬ shr Sm m o)) := by
  obtain ⟨hm, hm0, hm39, hlt, h80, -⟩ := h.mid hQ
  have hk80 := h.1.1.k80
  have hkd := (h.1.1.hk hm).1
  rw [u_X5_isFreeInRow, gA_nI (by omega) (by decide), nI_clamp (by omega), hm39]
  refine lp0 (b := fun fl i (_ : Unit) => b_X5_isFreeInRow_9 fl [(0, .inr 0), (1, .inl (nI P.length)), (2, .inl (nI m)), (3, .inl (nI i))] [] S) (N := P.length) (by omega) (s := ()) (fun i _ => ∀ t o, t < i → P[t]? = some o → (p o = true → Sm 15 o ≠ 0 → ¬ shr Sm m o)) (fun o => o = ri S (b01 (∀ o, o ∈ P → p o = true → Sm 15 o ≠ 0 → ¬ shr Sm m o))) (fun t o q => absurd q (by omega)) ?_ ?_
  · intro fl i _ hi hI
    obtain ⟨e1, e2, e3⟩ := pre_ix hQ hi
    have e39 : S 39 i = nI P[i] := h.2.2.1.2 i _ e2
    have hoQ : P[i] ∈ Q := by rw [hQ]; exact List.mem_append_left _ e3
    obtain ⟨ho, ho0⟩ := (h.2.2.2.2.1 _).mp hoQ
    simp only [u_X5_isFreeInRow_9, if_neg (nI_ge hi (by omega)), gA_nI (show i < 80 by omega) (show 80 < 2 ^ 31 by decide), gA_nI (show m < 80 by omega) (show 80 < 2 ^ 31 by decide), nI_clamp (show i < 2 ^ 31 by omega), nI_clamp (show m < 2 ^ 31 by omega), e39, (h.1.1.hk hm).2.2, (h.2.1.2.2.2 m hm hm0).2.1, h.isOf hp hkd ho ho0, cli_ri, gA_nI (show P[i] < 80 by omega) (show 80 < 2 ^ 31 by decide), nI_clamp (show P[i] < 2 ^ 31 by omega), (h.2.1.2.2.2 _ ho ho0).2.2.1, JM.share h.1.1 h.2.1 hm hm0 ho ho0, nI_1]
    by_cases c1 : p P[i] = true
    · by_cases c2 : Sm 15 P[i] = 0
      · left
        refine ⟨(), (pre_succ hi).mpr ⟨hI, fun _ q => absurd c2 q⟩, ?_⟩
        simp only [if_pos c1, r10, ↓reduceIte, if_pos c2]
      · by_cases c3 : shr Sm m P[i]
        · right
          simp only [if_pos c1, r10, ↓reduceIte, if_neg c2, b01_t c3]
          rw [b01_f (fun q => q _ e3 c1 c2 c3)]
        · left
          refine ⟨(), (pre_succ hi).mpr ⟨hI, fun _ _ => c3⟩, ?_⟩
          simp only [if_pos c1, r10, ↓reduceIte, if_neg c2, b01_f c3]
    · left
      refine ⟨(), (pre_succ hi).mpr ⟨hI, fun q => absurd q c1⟩, ?_⟩
      simp only [if_neg c1, ↓reduceIte]
  · intro fl _ hI
    simp only [u_X5_isFreeInRow_9, if_pos (nI_le (Nat.le_refl P.length) (by omega))]
    rw [b01_t (all_pre.mp hI)]
theorem and_b1 (c : Prop) : b01 c &&& 1 = b01 c := by
  by_cases h : c
  · rw [b01_t h]; decide
  · rw [b01_f h]; decide
theorem and_b0 (c : Prop) : b01 c &&& 0 = 0 := by
  by_cases h : c
  · rw [b01_t h]; decide
  · rw [b01_f h]; decide
theorem q_fit {n k z : Nat} {S Sm : XS} (h : RB n k z S Sm) {G P R : List Nat} {m : Nat} (hG : hold (Sm 24) G) (hQ : G = P ++ m :: R) (hk : ∀ j, j ∈ G → j < k) (hlen : G.length ≤ 80) (k19 : BT) (a1 a2 a3 a4 : Int32) (ha4 : 0 ≤ a4) {r : Int32} (hr : m_X6_own [.inr 0, .inl (nI m)] (up2 Sm 15 m 1) = ri (up2 Sm 15 m 1) r) : ((∀ o, o ∈ P → Sm 15 o ≠ 0 → ¬ shr Sm m o) ∧ b_X6_lieRow_31 k19 fu [(0, .inr 0), (1, .inl a1), (2, .inl a2), (3, .inl a3), (4, .inl a4), (5, .inl (nI P.length)), (6, .inl 1), (7, .inl 0)] [] Sm = k19 [(0, .inr 0), (1, .inl a1), (2, .inl a2), (3, .inl a3), (4, .inl (if r ≤ a4 then a4 else r)), (5, .inl (nI (P.length + 1)))] [] (up2 Sm 15 m 1)) ∨ ((¬ ∀ o, o ∈ P → Sm 15 o ≠ 0 → ¬ shr Sm m o) ∧ b_X6_lieRow_31 k19 fu [(0, .inr 0), (1, .inl a1), (2, .inl a2), (3, .inl a3), (4, .inl a4), (5, .inl (nI P.length)), (6, .inl 1), (7, .inl 0)] [] Sm = k19 [(0, .inr 0), (1, .inl a1), (2, .inl a2), (3, .inl a3), (4, .inl a4), (5, .inl (nI (P.length + 1)))] [] (up2 Sm 15 m 0)) := by
  have hk80 := h.k80
  have hmG : m ∈ G := by rw [hQ]; exact List.mem_append_right _ List.mem_cons_self
  have hm := hk m hmG
  have hlt : P.length < G.length := by rw [hQ, List.length_append, List.length_cons]; omega
  have em : Sm 24 P.length = nI m := by have := hG; rw [hQ] at this; exact this.mid
  refine lp0 (b := fun fl i (a6 : Int32) => b_X6_lieRow_31 k19 fl [(0, .inr 0), (1, .inl a1), (2, .inl a2), (3, .inl a3), (4, .inl a4), (5, .inl (nI P.length)), (6, .inl a6), (7, .inl (nI i))] [] Sm) (N := P.length) (by omega) (s := 1) (fun i a6 => a6 = b01 (∀ t o, t < i → P[t]? = some o → (Sm 15 o ≠ 0 → ¬ shr Sm m o))) (fun o => ((∀ o, o ∈ P → Sm 15 o ≠ 0 → ¬ shr Sm m o) ∧ o = k19 [(0, .inr 0), (1, .inl a1), (2, .inl a2), (3, .inl a3), (4, .inl (if r ≤ a4 then a4 else r)), (5, .inl (nI (P.length + 1)))] [] (up2 Sm 15 m 1)) ∨ ((¬ ∀ o, o ∈ P → Sm 15 o ≠ 0 → ¬ shr Sm m o) ∧ o = k19 [(0, .inr 0), (1, .inl a1), (2, .inl a2), (3, .inl a3), (4, .inl a4), (5, .inl (nI (P.length + 1)))] [] (up2 Sm 15 m 0))) (b01_t (fun t o q => absurd q (by omega))).symm ?_ ?_
  · rintro fl i a6 hi rfl
    left
    obtain ⟨e1, e2, e3⟩ := pre_ix hQ hi
    have e24 : Sm 24 i = nI P[i] := hG i _ e2
    have ho : P[i] < k := hk _ (by rw [hQ]; exact List.mem_append_left _ e3)
    simp only [u_X6_lieRow_31, if_neg (nI_ge hi (by omega)), gA_nI (show i < 80 by omega) (show 80 < 2 ^ 31 by decide), nI_clamp (show i < 2 ^ 31 by omega), e24, gA_nI (show P[i] < 80 by omega) (show 80 < 2 ^ 31 by decide), nI_clamp (show P[i] < 2 ^ 31 by omega), gA_nI (show P.length < 80 by omega) (show 80 < 2 ^ 31 by decide), nI_clamp (show P.length < 2 ^ 31 by omega), em, h.cover hm ho, cli_ri, nI_1, and_b1, and_b0]
    by_cases c2 : Sm 15 P[i] = 0
    · refine ⟨_, ?_, by rw [if_pos c2]⟩
      refine b01_iff ?_
      rw [pre_succ hi]
      exact ⟨fun w => ⟨w, fun q => absurd c2 q⟩, fun w => w.1⟩
    · by_cases c3 : shr Sm m P[i]
      · refine ⟨_, ?_, by rw [if_neg c2, b01_t c3, if_neg (by decide)]⟩
        rw [b01_f]
        rw [pre_succ hi]
        exact fun w => w.2 c2 c3
      · refine ⟨_, ?_, by rw [if_neg c2, b01_f c3, if_pos rfl]⟩
        refine b01_iff ?_
        rw [pre_succ hi]
        exact ⟨fun w => ⟨w, fun _ => c3⟩, fun w => w.1⟩
  · rintro fl a6 rfl
    have hall := all_pre (P := P) (c := fun o => Sm 15 o ≠ 0 → ¬ shr Sm m o)
    simp only [u_X6_lieRow_31, if_pos (nI_le (Nat.le_refl P.length) (show P.length < 2 ^ 31 by omega)), gA_nI (show P.length < 80 by omega) (show 80 < 2 ^ 31 by decide), nI_clamp (show P.length < 2 ^ 31 by omega), em, gA_nI (show m < 80 by omega) (show 80 < 2 ^ 31 by decide), nI_clamp (show m < 2 ^ 31 by omega), nI_1]
    by_cases c : ∀ o, o ∈ P → Sm 15 o ≠ 0 → ¬ shr Sm m o
    · left
      refine ⟨c, ?_⟩
      rw [b01_t (hall.mpr c)]
      simp only [r10, ↓reduceIte, nar1, up2_o _ _ (show (24 : Nat) ≠ 15 by decide), em, hr, cli_ri]
      by_cases c2 : r ≤ a4
      · rw [if_pos c2, if_pos c2]
      · rw [if_neg c2, if_neg c2]
    · right
      refine ⟨c, ?_⟩
      rw [b01_f (fun w => c (hall.mp w))]
      simp only [↓reduceIte, nar0, if_pos ha4]
theorem KK.set {n k z t : Nat} {Q : List Nat} {S Sm : XS} (h : KK n k z Q t S Sm) {m : Nat} (hl : Sm 13 m = 0) : KK n k z Q t (up2 S 23 m 1) (up2 Sm 15 m 1) := by
  have f : fr [23] S (up2 S 23 m 1) := fr.up (by simp)
  have hJ : J n k z z t S (up2 Sm 15 m 1) := h.1
  refine ⟨hJ.frX (f.mono (by decide)), ⟨h.2.1.1, h.2.1.2.1, ?_, fun j hj h0 => ?_⟩, h.2.2.1, h.2.2.2.of ⟨rfl, rfl, rfl, rfl, rfl, rfl, rfl, rfl, rfl, rfl, rfl, rfl, rfl, rfl, rfl, rfl, rfl, rfl, rfl⟩⟩
  · have e : ∀ k, lc (up2 Sm 15 m 1) k = lc Sm k := by
      intro k
      induction k with
      | zero => rfl
      | succ k ih => unfold lc; rw [ih]; rfl
    rw [e]
    exact h.2.1.2.2.1
  · obtain ⟨b1, b2, b3, b4, b5, b6⟩ := h.2.1.2.2.2 j hj h0
    refine ⟨b1, b2, ?_, ?_, b5, b6⟩
    · rw [up2_at, if_pos rfl, up2_at, if_pos rfl, b3]
    · rw [up2_at, if_pos rfl]
      by_cases e : j = m
      · rw [if_pos e]
        exact Or.inr rfl
      · rw [if_neg e]
        exact b4
def AR (B : Int) (L : List Nat) (a3 a4 : Int32) : Prop := (L = [] ∧ a3 = -100003 ∧ a4 = 0) ∨ (L ≠ [] ∧ a3 = a4 ∧ 18 ≤ a4.toInt ∧ a4.toInt ≤ B)
theorem up2_id {S : XS} {a i : Nat} {v : Int32} (h : S a i = v) : up2 S a i v = S := by
  funext x y
  rw [up2_at]
  by_cases e : x = a
  · subst e
    rw [if_pos rfl]
    by_cases e2 : y = i
    · subst e2
      rw [if_pos rfl, h]
    · rw [if_neg e2]
  · rw [if_neg e]
theorem flt_t {p : Nat → Bool} {P : List Nat} {m : Nat} (h : p m = true) : (P ++ [m]).filter p = P.filter p ++ [m] := by
  rw [List.filter_append, List.filter_cons_of_pos h, List.filter_nil]
theorem flt_f {p : Nat → Bool} {P : List Nat} {m : Nat} (h : ¬ p m = true) : (P ++ [m]).filter p = P.filter p := by
  rw [List.filter_append, List.filter_cons_of_neg h, List.filter_nil, List.append_nil]
theorem len_sn {P : List Nat} {m : Nat} : (P ++ [m]).length = P.length + 1 := by rw [List.length_append]; rfl
theorem flt_len {p : Nat → Bool} {Q : List Nat} : (Q.filter p).length ≤ Q.length := List.length_filter_le _ _
theorem KK.fill {n k z kd t : Nat} {s : Int32} {p : Nat → Bool} {Q : List Nat} (hkd : kd < 10) : ∀ (R P : List Nat) (fl fl' : Nat) (S Sm : XS) (a3 a4 : Int32), Q = P ++ R → R.length < fl → R.length < fl' → KK n k z Q t S Sm → PP n kd s p Sm → hold (Sm 24) (Q.filter p) → (∀ j, j ∈ R → p j = true → Sm 15 j = 0 ∧ Sm 13 j = 0) → AR (108 + 26 * z + 60 * t) (P.filter p) a3 a4 → ∃ S' Sm' a3' a4', b_X5_fillRow_6 fl [(0, .inr 0), (1, .inl (nI kd)), (2, .inl s), (3, .inl a3), (4, .inl (nI P.length))] [] S = ri S' a3' ∧ b_X6_lieRow_19 fl' [(0, .inr 0), (1, .inl (nI kd)), (2, .inl s), (3, .inl (nI (Q.filter p).length)), (4, .inl a4), (5, .inl (nI (P.filter p).length))] [] Sm = b_X6_lieRow_151 fu [(0, .inr 0), (1, .inl (nI kd)), (2, .inl s), (3, .inl (nI (Q.filter p).length)), (4, .inl a4'), (5, .inl 0)] [] Sm' ∧ KK n k z Q t S' Sm' ∧ fr [23] S S' ∧ fr [15] Sm Sm' ∧ AR (108 + 26 * z + 60 * t) (Q.filter p) a3' a4' ∧ (∀ j, ¬ (j ∈ Q ∧ p j = true) → Sm' 15 j = Sm 15 j) := by
  intro R
  induction R with
  | nil =>
    intro P fl fl' S Sm a3 a4 hQ h1 h2 h hp hG h0 hA
    obtain ⟨fl, rfl⟩ : ∃ q, fl = q + 1 := ⟨fl - 1, by omega⟩
    obtain ⟨fl', rfl⟩ : ∃ q, fl' = q + 1 := ⟨fl' - 1, by omega⟩
    rw [List.append_nil] at hQ
    subst hQ
    have hk80 := h.1.1.k80
    have hl := h.2.2.2.2.2
    have hf := flt_len (p := p) (Q := Q)
    exact ⟨S, Sm, a3, a4, by rw [u_X5_fillRow_6, h.2.2.1.1, if_pos (nI_le (Nat.le_refl _) (by omega))], by rw [u_X6_lieRow_19, if_pos (nI_le (Nat.le_refl _) (by omega))], h, fr.rf, fr.rf, hA, fun _ _ => rfl⟩
  | cons m R ih =>
    intro P fl fl' S Sm a3 a4 hQ h1 h2 h hp hG h0 hA
    rw [List.length_cons] at h1 h2
    obtain ⟨fl, rfl⟩ : ∃ q, fl = q + 1 := ⟨fl - 1, by omega⟩
    obtain ⟨hm, hm0, hm39, hlt, h80, hmR⟩ := h.mid hQ
    have hk80 := h.1.1.k80
    have hQ' : Q = (P ++ [m]) ++ R := by rw [hQ, List.append_assoc]; rfl
    have hpl : (P.filter p).length ≤ P.length := flt_len
    by_cases c1 : p m = true
    · obtain ⟨fl', rfl⟩ : ∃ q, fl' = q + 1 := ⟨fl' - 1, by omega⟩
      have hGs : Q.filter p = P.filter p ++ m :: R.filter p := by rw [hQ, List.filter_append, List.filter_cons_of_pos c1]
      have hGl : (P.filter p).length < (Q.filter p).length := by rw [hGs, List.length_append, List.length_cons]; omega
      have hQl : (Q.filter p).length ≤ Q.length := flt_len
      obtain ⟨e1, e2⟩ := (hp m).mp c1
      obtain ⟨hm15, hm13⟩ := h0 m List.mem_cons_self c1
      have hset := h.set hm13
      obtain ⟨r, o1, o2, o3, o4⟩ := hset.1.own hset.2.1 hm hm0
      have ha4 : 0 ≤ a4 := by
        rw [Int32.le_iff_toInt_le, show (0 : Int32).toInt = 0 from rfl]
        rcases hA with ⟨-, -, e⟩ | ⟨-, -, e, -⟩
        · rw [e]; decide
        · omega
      have hfr := h.free hQ (p := p) (by rw [e1, e2]; exact hp)
      have hiff : (∀ o, o ∈ P.filter p → Sm 15 o ≠ 0 → ¬ shr Sm m o) ↔ (∀ o, o ∈ P → p o = true → Sm 15 o ≠ 0 → ¬ shr Sm m o) :=
        ⟨fun w o q1 q2 => w o (List.mem_filter.mpr ⟨q1, q2⟩), fun w o q => w o (List.mem_filter.mp q).1 (List.mem_filter.mp q).2⟩
      have hkG : ∀ j, j ∈ Q.filter p → j < k := fun j q => ((h.2.2.2.2.1 j).mp (List.mem_filter.mp q).1).1
      have hx : b_X5_fillRow_6 (fl + 1) [(0, .inr 0), (1, .inl (nI kd)), (2, .inl s), (3, .inl a3), (4, .inl (nI P.length))] [] S = if b01 (∀ o, o ∈ P → p o = true → Sm 15 o ≠ 0 → ¬ shr Sm m o) = 0 then b_X5_fillRow_6 fl [(0, .inr 0), (1, .inl (nI kd)), (2, .inl s), (3, .inl a3), (4, .inl (nI (P ++ [m]).length))] [] S else b_X5_fillRow_6 fl [(0, .inr 0), (1, .inl (nI kd)), (2, .inl s), (3, .inl (if a3 < r then r else a3)), (4, .inl (nI (P ++ [m]).length))] [] (up2 S 23 m 1) := by
        rw [u_X5_fillRow_6, h.2.2.1.1, if_neg (nI_ge hlt (by omega)), nI_clamp (show P.length < 2 ^ 31 by omega), hm39]
        simp only [gA_nI (show P.length < 80 by omega) (show 80 < 2 ^ 31 by decide), h.isOf hp hkd hm hm0, if_pos c1, cli_ri, r10, ↓reduceIte, hfr, gA_nI (show m < 80 by omega) (show 80 < 2 ^ 31 by decide), nI_clamp (show m < 2 ^ 31 by omega), nar1, o1, nI_1, len_sn]
      have hy : b_X6_lieRow_19 (fl' + 1) [(0, .inr 0), (1, .inl (nI kd)), (2, .inl s), (3, .inl (nI (Q.filter p).length)), (4, .inl a4), (5, .inl (nI (P.filter p).length))] [] Sm = b_X6_lieRow_31 (b_X6_lieRow_19 fl') fu [(0, .inr 0), (1, .inl (nI kd)), (2, .inl s), (3, .inl (nI (Q.filter p).length)), (4, .inl a4), (5, .inl (nI (P.filter p).length)), (6, .inl 1), (7, .inl 0)] [] Sm := by
        rw [u_X6_lieRow_19, if_neg (nI_ge hGl (by omega))]
      rw [hx, hy]
      have hfl : ((P ++ [m]).filter p).length = (P.filter p).length + 1 := by rw [flt_t c1, len_sn]
      rcases q_fit h.1.1 hG hGs hkG (by omega) (b_X6_lieRow_19 fl') (nI kd) s (nI (Q.filter p).length) a4 ha4 o2 with ⟨c2, e⟩ | ⟨c2, e⟩
      · rw [e, b01_t (hiff.mp c2), if_neg (by decide), ← hfl]
        have hb1 : bsM Sm (up2 Sm 15 m 1) := (fr.up (l := [15]) (by simp)).bm (by decide)
        have hA' : AR (108 + 26 * z + 60 * t) ((P ++ [m]).filter p) (if a3 < r then r else a3) (if r ≤ a4 then a4 else r) := by
          right
          refine ⟨by rw [flt_t c1]; simp, ?_⟩
          rcases hA with ⟨-, e3, e4⟩ | ⟨-, e3, e4, e5⟩
          · have k1 : a3 < r := by rw [e3, Int32.lt_iff_toInt_lt, show (-100003 : Int32).toInt = -100003 from rfl]; omega
            have k2 : ¬ r ≤ a4 := by rw [e4, Int32.le_iff_toInt_le, show (0 : Int32).toInt = 0 from rfl]; omega
            rw [if_pos k1, if_neg k2]
            exact ⟨rfl, o3, o4⟩
          · subst e3
            by_cases k1 : a3 < r
            · rw [if_pos k1, if_neg (by rw [Int32.not_le]; exact k1)]
              exact ⟨rfl, o3, o4⟩
            · rw [if_neg k1, if_pos (by rw [← Int32.not_lt]; exact k1)]
              exact ⟨rfl, e4, e5⟩
        obtain ⟨S', Sm', a3', a4', g1, g2, g3, g4, g5, g6, g7⟩ := ih (P ++ [m]) fl fl' (up2 S 23 m 1) (up2 Sm 15 m 1) _ _ hQ' (by omega) (by omega) hset (hp.of hb1) hG (fun j hj hpj => by
          rw [up2_n _ (show j ≠ m from fun q => hmR (q ▸ hj))]
          exact h0 j (List.mem_cons_of_mem _ hj) hpj) hA'
        refine ⟨S', Sm', a3', a4', g1, g2, g3, ((fr.up (l := [23]) (by simp)).tr g4).mono (by decide), ((fr.up (l := [15]) (by simp)).tr g5).mono (by decide), g6, fun j hj => ?_⟩
        rw [g7 j hj, up2_n]
        intro q
        subst q
        exact hj ⟨by rw [hQ]; exact List.mem_append_right _ List.mem_cons_self, c1⟩
      · rw [e, b01_f (fun w => c2 (hiff.mpr w)), if_pos rfl, ← hfl, up2_id hm15]
        have hA' : AR (108 + 26 * z + 60 * t) ((P ++ [m]).filter p) a3 a4 := by
          right
          refine ⟨by rw [flt_t c1]; simp, ?_⟩
          rcases hA with ⟨e3, -⟩ | ⟨-, e3⟩
          · exact absurd (fun o q => by rw [e3] at q; exact absurd q List.not_mem_nil) c2
          · exact e3
        exact ih (P ++ [m]) fl fl' S Sm a3 a4 hQ' (by omega) (by omega) h hp hG (fun j hj hpj => h0 j (List.mem_cons_of_mem _ hj) hpj) hA'
    · have hx : b_X5_fillRow_6 (fl + 1) [(0, .inr 0), (1, .inl (nI kd)), (2, .inl s), (3, .inl a3), (4, .inl (nI P.length))] [] S = b_X5_fillRow_6 fl [(0, .inr 0), (1, .inl (nI kd)), (2, .inl s), (3, .inl a3), (4, .inl (nI (P ++ [m]).length))] [] S := by
        rw [u_X5_fillRow_6, h.2.2.1.1, if_neg (nI_ge hlt (by omega)), nI_clamp (show P.length < 2 ^ 31 by omega), hm39]
        simp only [gA_nI (show P.length < 80 by omega) (show 80 < 2 ^ 31 by decide), h.isOf hp hkd hm hm0, if_neg c1, cli_ri, ↓reduceIte, nI_1, len_sn]
      have := ih (P ++ [m]) fl fl' S Sm a3 a4 hQ' (by omega) (by omega) h hp hG (fun j hj hpj => h0 j (List.mem_cons_of_mem _ hj) hpj) (by rw [flt_f c1]; exact hA)
      rw [flt_f c1] at this
      rw [hx]
      exact this
