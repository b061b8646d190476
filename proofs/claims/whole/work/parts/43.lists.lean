/-! PURE PART: lists in cells. -/
def hold (f : Nat → Int32) (L : List Nat) : Prop := ∀ i m, L[i]? = some m → f i = nI m
theorem hold.mid {f : Nat → Int32} {P R : List Nat} {m : Nat} (h : hold f (P ++ m :: R)) : f P.length = nI m := h _ _ (by rw [List.getElem?_append_right (Nat.le_refl _), Nat.sub_self]; rfl)
/-- a list in a cell with a hole at i -/
def hl (A : Nat → Int32) (L : List Nat) (i : Nat) : Prop := (∀ t v, t < i → L[t]? = some v → A t = nI v) ∧ (∀ t v, i ≤ t → L[t]? = some v → A (t + 1) = nI v)
theorem hl.top {A : Nat → Int32} {L : List Nat} (h : hold A L) : hl A L L.length := ⟨fun t v _ q => h t v q, fun t v h1 h2 => by rw [List.getElem?_eq_none h1] at h2; cases h2⟩
theorem hl.stp {A A' : Nat → Int32} {L : List Nat} {i : Nat} (h : hl A L (i + 1)) (hi : i < L.length) (h1 : A' (i + 1) = A i) (h2 : ∀ t, t ≠ i + 1 → A' t = A t) : hl A' L i := by
  refine ⟨fun t v q w => by rw [h2 t (by omega)]; exact h.1 t v (by omega) w, fun t v q w => ?_⟩
  by_cases e : t = i
  · subst e
    rw [h1]
    exact h.1 t v (by omega) w
  · rw [h2 (t + 1) (by omega)]
    exact h.2 t v (by omega) w
theorem hl.fin {A A' : Nat → Int32} {L : List Nat} {i m : Nat} (h : hl A L i) (hi : i ≤ L.length) (h1 : A' i = nI m) (h2 : ∀ t, t ≠ i → A' t = A t) : hold A' (L.take i ++ m :: L.drop i) := by
  intro t v q
  by_cases c : t < i
  · rw [List.getElem?_append_left (by rw [List.length_take]; omega), List.getElem?_take_of_lt c] at q
    rw [h2 t (by omega)]
    exact h.1 t v c q
  · rw [List.getElem?_append_right (by rw [List.length_take]; omega), List.length_take, show min i L.length = i by omega] at q
    by_cases e : t = i
    · subst e
      rw [Nat.sub_self] at q
      cases Option.some.inj q
      exact h1
    · obtain ⟨d, rfl⟩ : ∃ d, t = i + d + 1 := ⟨t - i - 1, by omega⟩
      rw [show i + d + 1 - i = d + 1 by omega, List.getElem?_cons_succ, List.getElem?_drop] at q
      rw [h2 _ (by omega)]
      exact h.2 _ v (by omega) q
theorem ins_mem {L : List Nat} {i m j : Nat} : j ∈ L.take i ++ m :: L.drop i ↔ j = m ∨ j ∈ L := by
  rw [List.mem_append, List.mem_cons]
  conv => rhs; rw [← List.take_append_drop i L, List.mem_append]
  constructor
  · rintro (q | q | q)
    · exact Or.inr (Or.inl q)
    · exact Or.inl q
    · exact Or.inr (Or.inr q)
  · rintro (q | q | q)
    · exact Or.inr (Or.inl q)
    · exact Or.inl q
    · exact Or.inr (Or.inr q)
theorem ins_len {L : List Nat} {i m : Nat} (hi : i ≤ L.length) : (L.take i ++ m :: L.drop i).length = L.length + 1 := by
  rw [List.length_append, List.length_cons, List.length_take, List.length_drop]
  omega
theorem ins_srt {lt : Nat → Nat → Prop} (tr : ∀ a b c, lt a b → lt b c → lt a c) {L : List Nat} {i m : Nat} (hs : L.Pairwise lt) (h1 : ∀ t v, i ≤ t → L[t]? = some v → lt m v) (h2 : i = 0 ∨ ∃ v, L[i - 1]? = some v ∧ lt v m) (hi : i ≤ L.length) : (L.take i ++ m :: L.drop i).Pairwise lt := by
  have hb : ∀ a, a ∈ L.take i → lt a m := by
    intro a ha
    obtain ⟨t, ht⟩ := List.mem_iff_getElem?.mp ha
    have ht1 : t < i := by
      have := (List.getElem?_eq_some_iff.mp ht).1
      rw [List.length_take] at this
      omega
    rw [List.getElem?_take_of_lt ht1] at ht
    rcases h2 with e | ⟨v, e1, e2⟩
    · omega
    · by_cases c : t = i - 1
      · subst c
        rw [e1] at ht
        cases Option.some.inj ht
        exact e2
      · obtain ⟨p1, q1⟩ := List.getElem?_eq_some_iff.mp ht
        obtain ⟨p2, q2⟩ := List.getElem?_eq_some_iff.mp e1
        have := List.pairwise_iff_getElem.mp hs t (i - 1) p1 p2 (by omega)
        rw [q1, q2] at this
        exact tr _ _ _ this e2
  have ha : ∀ a, a ∈ L.drop i → lt m a := by
    intro a ha
    obtain ⟨t, ht⟩ := List.mem_iff_getElem?.mp ha
    rw [List.getElem?_drop] at ht
    exact h1 (i + t) a (by omega) ht
  rw [← List.take_append_drop i L, List.pairwise_append] at hs
  rw [List.pairwise_append, List.pairwise_cons]
  refine ⟨hs.1, ⟨ha, hs.2.1⟩, fun a h3 b h4 => ?_⟩
  rcases List.mem_cons.mp h4 with e | e
  · rw [e]
    exact hb a h3
  · exact hs.2.2 a h3 b e
theorem srt_un {lt : Nat → Nat → Prop} (irr : ∀ a, ¬ lt a a) (as : ∀ a b, lt a b → ¬ lt b a) : ∀ {L L' : List Nat}, L.Pairwise lt → L'.Pairwise lt → (∀ j, j ∈ L ↔ j ∈ L') → L = L' := by
  intro L
  induction L with
  | nil =>
    intro L' _ _ h
    cases L' with
    | nil => rfl
    | cons b T => exact absurd ((h b).mpr (List.mem_cons_self)) (List.not_mem_nil)
  | cons a T ih =>
    intro L' h1 h2 h
    cases L' with
    | nil => exact absurd ((h a).mp (List.mem_cons_self)) (List.not_mem_nil)
    | cons b T' =>
      rw [List.pairwise_cons] at h1 h2
      have e : a = b := by
        rcases List.mem_cons.mp ((h a).mp List.mem_cons_self) with e | e
        · exact e
        · rcases List.mem_cons.mp ((h b).mpr List.mem_cons_self) with e' | e'
          · exact e'.symm
          · exact absurd (h1.1 b e') (as _ _ (h2.1 a e))
      subst e
      rw [ih h1.2 h2.2 (fun j => ?_)]
      constructor
      · intro q
        rcases List.mem_cons.mp ((h j).mp (List.mem_cons_of_mem _ q)) with e | e
        · subst e
          exact absurd (h1.1 j q) (irr j)
        · exact e
      · intro q
        rcases List.mem_cons.mp ((h j).mpr (List.mem_cons_of_mem _ q)) with e | e
        · subst e
          exact absurd (h2.1 j q) (irr j)
        · exact e
/-- a loop that counts down -/
theorem lpd {β : Type} {b : Nat → Nat → β → Option RS} (I : Nat → β → Prop) (F : Option RS → Prop) (hs : ∀ fl i s, I (i + 1) s → (∃ s', I i s' ∧ b (fl + 1) (i + 1) s = b fl i s') ∨ F (b (fl + 1) (i + 1) s)) (he : ∀ fl s, I 0 s → F (b (fl + 1) 0 s)) : ∀ (i fl : Nat) (s : β), i < fl → I i s → F (b fl i s) := by
  intro i
  induction i with
  | zero =>
    intro fl s h1 h2
    obtain ⟨fl, rfl⟩ : ∃ q, fl = q + 1 := ⟨fl - 1, by omega⟩
    exact he fl s h2
  | succ i ih =>
    intro fl s h1 h2
    obtain ⟨fl, rfl⟩ : ∃ q, fl = q + 1 := ⟨fl - 1, by omega⟩
    rcases hs fl i s h2 with ⟨s', q1, q2⟩ | q
    · rw [q2]
      exact ih fl s' (by omega) q1
    · exact q
theorem nI_dec (i : Nat) : nI (i + 1) + -1 = nI i := by
  rw [← Int32.sub_eq_add_neg]
  exact nI_pred i
theorem fr.bm {l : List Nat} {S S' : XS} (h : fr l S S') (hl : ∀ a, a ∈ l → a ∈ [13, 14, 15, 16, 21, 22, 23, 24]) : bsM S S' := by
  have h' : fr [13, 14, 15, 16, 21, 22, 23, 24] S S' := h.mono hl
  exact ⟨congrFun (h' 0 (by decide)) 1, congrFun (h' 0 (by decide)) 9, congrFun (h' 0 (by decide)) 20, h' 1 (by decide), h' 2 (by decide), h' 3 (by decide), h' 4 (by decide), h' 5 (by decide), h' 6 (by decide), h' 7 (by decide), h' 8 (by decide), h' 9 (by decide), h' 10 (by decide), h' 11 (by decide), h' 12 (by decide), h' 17 (by decide), h' 18 (by decide), h' 19 (by decide), h' 20 (by decide)⟩
theorem bsM.e_mI {S S' : XS} (h : bsM S S') : mI S' = mI S := by
  obtain ⟨-, -, -, m1, m2, m3, m4, m5, m6, m7, m8, m9, m10, m11, m12, -⟩ := h
  funext j
  unfold mI
  rw [m8]
theorem bsM.e_mK {S S' : XS} (h : bsM S S') : mK S' = mK S := by
  obtain ⟨-, -, -, m1, m2, m3, m4, m5, m6, m7, m8, m9, m10, m11, m12, -⟩ := h
  funext j
  unfold mK
  rw [m9]
theorem bsM.e_mX {S S' : XS} (h : bsM S S') : mX S' = mX S := by
  obtain ⟨-, -, -, m1, m2, m3, m4, m5, m6, m7, m8, m9, m10, m11, m12, -⟩ := id h
  funext j
  unfold mX
  rw [m1, h.e_mI]
theorem bsM.e_mG {S S' : XS} (h : bsM S S') : mG S' = mG S := by
  obtain ⟨-, -, -, m1, m2, m3, m4, m5, m6, m7, m8, m9, m10, m11, m12, -⟩ := id h
  funext j w
  unfold mG
  rw [m7, h.e_mK]
theorem bsM.e_lf {S S' : XS} (h : bsM S S') : lf S' = lf S := by
  obtain ⟨-, -, -, m1, m2, m3, m4, m5, m6, m7, m8, m9, m10, m11, m12, -⟩ := id h
  funext j
  unfold lf
  rw [m10, h.e_mG, h.e_mX]
theorem bsM.e_sdv {S S' : XS} (h : bsM S S') : sdv S' = sdv S := by
  obtain ⟨-, -, -, m1, m2, m3, m4, m5, m6, m7, m8, m9, m10, m11, m12, -⟩ := id h
  funext j
  unfold sdv
  rw [m4, h.e_mI]
theorem bsM.e_sds {S S' : XS} (h : bsM S S') : sds S' = sds S := by
  obtain ⟨-, -, -, m1, m2, m3, m4, m5, m6, m7, m8, m9, m10, m11, m12, -⟩ := id h
  funext j
  unfold sds
  rw [m5, h.e_mI, h.e_sdv]
theorem bsM.e_bo {S S' : XS} (h : bsM S S') (n : Nat) : bothV n S' = bothV n S := by
  obtain ⟨-, -, -, m1, m2, m3, m4, m5, m6, m7, m8, m9, m10, m11, m12, -⟩ := id h
  unfold bothV
  rw [m4]
theorem bsM.e_sd {S S' : XS} (h : bsM S S') (n j : Nat) : sd n S' j = sd n S j := by
  have e := h.e_bo n
  unfold sd
  simp only [h.e_mG, h.e_sds, h.e_sdv]
  by_cases q : bothV n S
  · have q' : bothV n S' := by rw [e]; exact q
    simp only [if_pos q, if_pos q']
  · have q' : ¬ bothV n S' := by rw [e]; exact q
    simp only [if_neg q, if_neg q']
theorem bsM.e_ahd {S S' : XS} (h : bsM S S') : ahd S' = ahd S := by
  funext a b
  unfold ahd rk
  rw [h.e_mG, h.e_mX]
theorem bsM.e_shr {S S' : XS} (h : bsM S S') : shr S' = shr S := by
  obtain ⟨-, -, -, m1, m2, m3, m4, m5, m6, m7, m8, m9, m10, m11, m12, -⟩ := id h
  funext a b
  unfold shr
  rw [h.e_lf, m10]
theorem RB.queueMark {n k z : Nat} {S Sm : XS} (h : RB n k z S Sm) {m : Nat} (hm : m < k) {L : List Nat} (hL : hold (S 39) L) (hq : S 0 7 = nI L.length) (hlt : ∀ j, j ∈ L → j < m) (hs : L.Pairwise (ahd Sm)) (hlen : L.length < 80) : ∃ S' L', m_X5_queueMark [.inr 0, .inl (nI m)] S = rv S' ∧ fr [0, 39] S S' ∧ (∀ i, i ≠ 7 → S' 0 i = S 0 i) ∧ S' 0 7 = nI L'.length ∧ hold (S' 39) L' ∧ L'.Pairwise (ahd Sm) ∧ (∀ j, j ∈ L' ↔ j = m ∨ j ∈ L) ∧ L'.length = L.length + 1 := by
  have h80 := h.k80
  have hfin : ∀ (i : Nat) (s : XS), (fr [39] S s ∧ i ≤ L.length ∧ hl (s 39) L i ∧ ∀ t v, i ≤ t → L[t]? = some v → ahd Sm m v) → (i = 0 ∨ ∃ v, L[i - 1]? = some v ∧ ahd Sm v m) → ∃ S' L', (some (up2 (up2 s 39 i (nI m)) 0 7 (((up2 s 39 i (nI m)) 0 7) + 1), some none) : Option RS) = rv S' ∧ fr [0, 39] S S' ∧ (∀ i, i ≠ 7 → S' 0 i = S 0 i) ∧ S' 0 7 = nI L'.length ∧ hold (S' 39) L' ∧ L'.Pairwise (ahd Sm) ∧ (∀ j, j ∈ L' ↔ j = m ∨ j ∈ L) ∧ L'.length = L.length + 1 := by
    rintro i s ⟨a1, a2, a3, a4⟩ a5
    refine ⟨_, L.take i ++ m :: L.drop i, rfl, ?_, ?_, ?_, ?_, ins_srt (lt := ahd Sm) (fun a b c => ahd_tr) hs a4 a5 a2, fun j => ins_mem, ins_len a2⟩
    · exact ((a1.tr (fr.up (l := [39]) (by simp))).tr (fr.up (l := [0]) (by simp))).mono (fun a ha => by simp at ha ⊢; omega)
    · intro q hq7
      rw [up2_n _ hq7, up2_o _ _ (show (0 : Nat) ≠ 39 by decide), a1 0 (by decide)]
    · rw [up2_s, up2_o _ _ (show (0 : Nat) ≠ 39 by decide), a1 0 (by decide), hq, nI_1, ins_len a2]
    · refine a3.fin a2 ?_ ?_
      · rw [up2_o _ _ (show (39 : Nat) ≠ 0 by decide), up2_s]
      · intro t ht
        rw [up2_o _ _ (show (39 : Nat) ≠ 0 by decide), up2_n _ ht]
  rw [u_X5_queueMark, hq]
  refine lpd (b := fun fl i (s : XS) => b_X5_queueMark_5 fl [(0, .inr 0), (1, .inl (nI m)), (2, .inl (nI i))] [] s) (fun i s => fr [39] S s ∧ i ≤ L.length ∧ hl (s 39) L i ∧ ∀ t v, i ≤ t → L[t]? = some v → ahd Sm m v) (fun o => ∃ S' L', o = rv S' ∧ fr [0, 39] S S' ∧ (∀ i, i ≠ 7 → S' 0 i = S 0 i) ∧ S' 0 7 = nI L'.length ∧ hold (S' 39) L' ∧ L'.Pairwise (ahd Sm) ∧ (∀ j, j ∈ L' ↔ j = m ∨ j ∈ L) ∧ L'.length = L.length + 1) ?_ ?_ L.length fu S (by rw [fu_eq]; omega) ⟨fr.rf, Nat.le_refl _, hl.top hL, fun t v h1 h2 => by rw [List.getElem?_eq_none h1] at h2; cases h2⟩
  · rintro fl i s ⟨a1, a2, a3, a4⟩
    have hb : RB n k z s Sm := h.of (a1.mono (by decide)).bs bsM.rf
    have hv : L[i]? = some L[i] := List.getElem?_eq_getElem (by omega)
    have hvm : L[i] ∈ L := List.getElem_mem _
    have hvl := hlt _ hvm
    have e39 : s 39 i = nI L[i] := a3.1 i _ (by omega) hv
    obtain ⟨r1, b1, c1⟩ := hb.rank hm
    obtain ⟨r2, b2, c2⟩ := hb.rank (show L[i] < k by omega)
    simp only [u_X5_queueMark_5, if_neg (nI_nle (show 0 < i + 1 by omega) (show i + 1 < 2 ^ 31 by omega)), nI_pred, nI_dec, gA_nI (show i < 80 by omega) (by decide), gA_nI (show i + 1 < 80 by omega) (by decide), nI_clamp (show i < 2 ^ 31 by omega), nI_clamp (show i + 1 < 2 ^ 31 by omega), e39, b1, b2, cli_ri]
    by_cases c : r2 ≤ r1
    · right
      rw [if_pos c]
      refine hfin (i + 1) s ⟨a1, a2, a3, a4⟩ (Or.inr ⟨L[i], by rw [show i + 1 - 1 = i by omega]; exact hv, ?_⟩)
      rw [Int32.le_iff_toInt_le, c1, c2] at c
      unfold ahd
      omega
    · left
      rw [if_neg c]
      refine ⟨up2 s 39 (i + 1) (nI L[i]), ⟨(a1.tr (fr.up (l := [39]) (by simp))).mono (by decide), by omega, a3.stp (by omega) (by rw [up2_s, e39]) (fun t ht => up2_n _ ht), fun t v h1 h2 => ?_⟩, rfl⟩
      by_cases e : t = i
      · subst e
        rw [hv] at h2
        cases Option.some.inj h2
        rw [Int32.le_iff_toInt_le, c1, c2] at c
        unfold ahd
        omega
      · exact a4 t v (by omega) h2
  · rintro fl s a
    simp only [u_X5_queueMark_5, if_pos (show nI 0 ≤ 0 by decide), gA_nI (show 0 < 80 by omega) (by decide), nI_clamp (show 0 < 2 ^ 31 by omega)]
    exact hfin 0 s a (Or.inl rfl)
theorem RB.gather1 {n k z : Nat} {S Sm : XS} (h : RB n k z S Sm) {m : Nat} (hm : m < k) {L : List Nat} (hL : hold (Sm 24) L) (hlt : ∀ j, j ∈ L → j < m) (hs : L.Pairwise (ahd Sm)) (hlen : L.length < 80) (k5 : BT) (a1 a2 : Int32) : ∃ S' L', b_X6_gather_48 k5 fu [(0, .inr 0), (1, .inl a1), (2, .inl a2), (3, .inl (nI L.length)), (4, .inl (nI m)), (5, .inl (nI L.length))] [] Sm = k5 [(0, .inr 0), (1, .inl a1), (2, .inl a2), (3, .inl (nI L'.length)), (4, .inl (nI (m + 1)))] [] S' ∧ fr [24] Sm S' ∧ hold (S' 24) L' ∧ L'.Pairwise (ahd Sm) ∧ (∀ j, j ∈ L' ↔ j = m ∨ j ∈ L) ∧ L'.length = L.length + 1 := by
  have h80 := h.k80
  have hfin : ∀ (i : Nat) (s : XS), (fr [24] Sm s ∧ i ≤ L.length ∧ hl (s 24) L i ∧ ∀ t v, i ≤ t → L[t]? = some v → ahd Sm m v) → (i = 0 ∨ ∃ v, L[i - 1]? = some v ∧ ahd Sm v m) → ∃ S' L', k5 [(0, .inr 0), (1, .inl a1), (2, .inl a2), (3, .inl (nI (L.length + 1))), (4, .inl (nI (m + 1)))] [] (up2 s 24 i (nI m)) = k5 [(0, .inr 0), (1, .inl a1), (2, .inl a2), (3, .inl (nI L'.length)), (4, .inl (nI (m + 1)))] [] S' ∧ fr [24] Sm S' ∧ hold (S' 24) L' ∧ L'.Pairwise (ahd Sm) ∧ (∀ j, j ∈ L' ↔ j = m ∨ j ∈ L) ∧ L'.length = L.length + 1 := by
    rintro i s ⟨b1, b2, b3, b4⟩ b5
    refine ⟨up2 s 24 i (nI m), L.take i ++ m :: L.drop i, by rw [ins_len b2], ?_, ?_, ins_srt (lt := ahd Sm) (fun a b c => ahd_tr) hs b4 b5 b2, fun j => ins_mem, ins_len b2⟩
    · exact (b1.tr (fr.up (l := [24]) (by simp))).mono (by decide)
    · exact b3.fin b2 (up2_s _) (fun t ht => up2_n _ ht)
  refine lpd (b := fun fl i (s : XS) => b_X6_gather_48 k5 fl [(0, .inr 0), (1, .inl a1), (2, .inl a2), (3, .inl (nI L.length)), (4, .inl (nI m)), (5, .inl (nI i))] [] s) (fun i s => fr [24] Sm s ∧ i ≤ L.length ∧ hl (s 24) L i ∧ ∀ t v, i ≤ t → L[t]? = some v → ahd Sm m v) (fun o => ∃ S' L', o = k5 [(0, .inr 0), (1, .inl a1), (2, .inl a2), (3, .inl (nI L'.length)), (4, .inl (nI (m + 1)))] [] S' ∧ fr [24] Sm S' ∧ hold (S' 24) L' ∧ L'.Pairwise (ahd Sm) ∧ (∀ j, j ∈ L' ↔ j = m ∨ j ∈ L) ∧ L'.length = L.length + 1) ?_ ?_ L.length fu Sm (by rw [fu_eq]; omega) ⟨fr.rf, Nat.le_refl _, hl.top hL, fun t v h1 h2 => by rw [List.getElem?_eq_none h1] at h2; cases h2⟩
  · rintro fl i s ⟨b1, b2, b3, b4⟩
    have hbm : bsM Sm s := b1.bm (by decide)
    have hb : RB n k z S s := h.of bsX.rf hbm
    have hv : L[i]? = some L[i] := List.getElem?_eq_getElem (by omega)
    have hvm : L[i] ∈ L := List.getElem_mem _
    have hvl := hlt _ hvm
    have e24 : s 24 i = nI L[i] := b3.1 i _ (by omega) hv
    have ea : ahd s m L[i] ↔ ahd Sm m L[i] := by rw [hbm.e_ahd]
    simp only [u_X6_gather_48, if_neg (nI_nle (show 0 < i + 1 by omega) (show i + 1 < 2 ^ 31 by omega)), nI_pred, nI_dec, nI_1, gA_nI (show i < 80 by omega) (by decide), gA_nI (show i + 1 < 80 by omega) (by decide), nI_clamp (show i < 2 ^ 31 by omega), nI_clamp (show i + 1 < 2 ^ 31 by omega), e24, hb.isAhead hm (show L[i] < k by omega), cli_ri]
    by_cases c : ahd Sm m L[i]
    · left
      rw [b01_t (ea.mpr c), if_neg (by decide)]
      refine ⟨up2 s 24 (i + 1) (nI L[i]), ⟨(b1.tr (fr.up (l := [24]) (by simp))).mono (by decide), by omega, b3.stp (by omega) (by rw [up2_s, e24]) (fun t ht => up2_n _ ht), fun t v h1 h2 => ?_⟩, rfl⟩
      by_cases e : t = i
      · subst e
        rw [hv] at h2
        cases Option.some.inj h2
        exact c
      · exact b4 t v (by omega) h2
    · right
      rw [b01_f (fun q => c (ea.mp q)), if_pos rfl]
      exact hfin (i + 1) s ⟨b1, b2, b3, b4⟩ (Or.inr ⟨L[i], by rw [show i + 1 - 1 = i by omega]; exact hv, ahd_tot c (by omega)⟩)
  · rintro fl s a
    simp only [u_X6_gather_48, if_pos (show nI 0 ≤ 0 by decide), gA_nI (show 0 < 80 by omega) (by decide), nI_clamp (show 0 < 2 ^ 31 by omega), nI_1]
    exact hfin 0 s a (Or.inl rfl)
theorem RB.gather {n k z : Nat} {S Sm : XS} (h : RB n k z S Sm) {kd : Nat} (hkd : kd < 10) (s : Int32) : ∃ S' G, m_X6_gather [.inr 0, .inl (nI kd), .inl s] Sm = ri S' (nI G.length) ∧ fr [24] Sm S' ∧ hold (S' 24) G ∧ G.Pairwise (ahd Sm) ∧ (∀ j, j ∈ G ↔ j < k ∧ Sm 12 j = 0 ∧ mK Sm j = kd ∧ sd n Sm j = s) ∧ G.length ≤ k := by
  have h80 := h.k80
  rw [u_X6_gather]
  refine lp0 (b := fun fl i (a : XS × List Nat) => b_X6_gather_5 fl [(0, .inr 0), (1, .inl (nI kd)), (2, .inl s), (3, .inl (nI a.2.length)), (4, .inl (nI i))] [] a.1) (N := k) (by omega) (s := (Sm, [])) (fun i a => fr [24] Sm a.1 ∧ hold (a.1 24) a.2 ∧ a.2.Pairwise (ahd Sm) ∧ (∀ j, j ∈ a.2 ↔ j < i ∧ Sm 12 j = 0 ∧ mK Sm j = kd ∧ sd n Sm j = s) ∧ a.2.length ≤ i) (fun o => ∃ S' G, o = ri S' (nI G.length) ∧ fr [24] Sm S' ∧ hold (S' 24) G ∧ G.Pairwise (ahd Sm) ∧ (∀ j, j ∈ G ↔ j < k ∧ Sm 12 j = 0 ∧ mK Sm j = kd ∧ sd n Sm j = s) ∧ G.length ≤ k) ⟨fr.rf, (fun i m q => by cases q), List.Pairwise.nil, fun j => ⟨fun q => absurd q List.not_mem_nil, fun q => absurd q.1 (by omega)⟩, Nat.le_refl _⟩ ?_ ?_
  · rintro fl i ⟨s1, L⟩ hi ⟨b1, b2, b3, b4, b5⟩
    left
    dsimp only at b1 b2 b3 b4 b5
    have hbm : bsM Sm s1 := b1.bm (by decide)
    have hb : RB n k z S s1 := h.of bsX.rf hbm
    have e9 : s1 0 9 = nI k := hb.2.2.1.2.1
    have e12 : s1 12 i = Sm 12 i := by rw [b1 12 (by decide)]
    have ek : s1 9 i = nI (mK Sm i) := by rw [b1 9 (by decide)]; exact (h.hk hi).2.1
    have hk10 := (h.hk hi).1
    have esd : sd n s1 i = sd n Sm i := hbm.e_sd n i
    have hskip : ¬ (Sm 12 i = 0 ∧ mK Sm i = kd ∧ sd n Sm i = s) → ∀ j, j ∈ L ↔ j < i + 1 ∧ Sm 12 j = 0 ∧ mK Sm j = kd ∧ sd n Sm j = s := by
      intro hn j
      rw [b4 j]
      constructor
      · rintro ⟨q1, q2⟩
        exact ⟨by omega, q2⟩
      · rintro ⟨q1, q2⟩
        refine ⟨?_, q2⟩
        by_cases e : j = i
        · subst e
          exact absurd q2 hn
        · omega
    simp only [u_X6_gather_5, e9, if_neg (nI_ge hi (by omega)), gA_nI (show i < 80 by omega) (by decide), nI_clamp (show i < 2 ^ 31 by omega), e12, ek, nI_eq (show mK Sm i < 2 ^ 31 by omega) (show kd < 2 ^ 31 by omega), hb.sideOf hi, cli_ri, esd, nI_1]
    by_cases c1 : Sm 12 i = 0
    · by_cases c2 : mK Sm i = kd
      · by_cases c3 : sd n Sm i = s
        · rw [if_pos c1, if_pos c2, if_pos c3]
          have hps : L.Pairwise (ahd s1) := by rw [hbm.e_ahd]; exact b3
          obtain ⟨S', L', d1, d2, d3, d4, d5, d6⟩ := hb.gather1 hi b2 (fun j q => ((b4 j).mp q).1) hps (by omega) (b_X6_gather_5 fl) (nI kd) s
          rw [hbm.e_ahd] at d4
          refine ⟨(S', L'), ⟨(b1.tr d2).mono (by decide), d3, d4, fun j => ?_, by rw [d6]; omega⟩, d1⟩
          rw [d5 j, b4 j]
          constructor
          · rintro (e | ⟨q1, q2⟩)
            · rw [e]
              exact ⟨by omega, c1, c2, c3⟩
            · exact ⟨by omega, q2⟩
          · rintro ⟨q1, q2⟩
            by_cases e : j = i
            · exact Or.inl e
            · exact Or.inr ⟨by omega, q2⟩
        · rw [if_pos c1, if_pos c2, if_neg c3]
          exact ⟨(s1, L), ⟨b1, b2, b3, hskip (fun q => c3 q.2.2), Nat.le_succ_of_le b5⟩, rfl⟩
      · rw [if_pos c1, if_neg c2]
        exact ⟨(s1, L), ⟨b1, b2, b3, hskip (fun q => c2 q.2.1), Nat.le_succ_of_le b5⟩, rfl⟩
    · rw [if_neg c1]
      exact ⟨(s1, L), ⟨b1, b2, b3, hskip (fun q => c1 q.1), Nat.le_succ_of_le b5⟩, rfl⟩
  · rintro fl ⟨s1, L⟩ ⟨b1, b2, b3, b4, b5⟩
    dsimp only at b1 b2 b3 b4 b5
    have e9 : s1 0 9 = nI k := by rw [b1 0 (by decide)]; exact h.2.2.1.2.1
    simp only [u_X6_gather_5, e9, if_pos (nI_le (Nat.le_refl k) (by omega))]
    exact ⟨s1, L, rfl, b1, b2, b3, b4, b5⟩
theorem RB.queueMarks {n k z : Nat} {S Sm : XS} (h : RB n k z S Sm) : ∃ S' Q, m_X5_queueMarks [.inr 0] S = rv S' ∧ fr [0, 19, 20, 23, 24, 39] S S' ∧ (∀ i, i ≠ 7 → S' 0 i = S 0 i) ∧ S' 0 7 = nI Q.length ∧ hold (S' 39) Q ∧ Q.Pairwise (ahd Sm) ∧ (∀ j, j ∈ Q ↔ j < k ∧ Sm 12 j = 0) ∧ Q.length ≤ k ∧ (∀ j, j < k → Sm 12 j = 0 → S' 19 j = lf Sm j ∧ S' 20 j = sd n Sm j ∧ S' 23 j = 0 ∧ S' 24 j = -1) := by
  have h80 := h.k80
  rw [u_X5_queueMarks, h.both, cli_ri]
  refine lp0 (b := fun fl i (a : XS × List Nat) => b_X5_queueMarks_15 fl [(0, .inr 0), (1, .inl (b01 (bothV n Sm))), (2, .inl (nI i))] [] a.1) (N := k) (by omega) (s := (up2 S 0 7 0, [])) (fun i a => fr [0, 19, 20, 23, 24, 39] S a.1 ∧ (∀ i, i ≠ 7 → a.1 0 i = S 0 i) ∧ a.1 0 7 = nI a.2.length ∧ hold (a.1 39) a.2 ∧ a.2.Pairwise (ahd Sm) ∧ (∀ j, j ∈ a.2 ↔ j < i ∧ Sm 12 j = 0) ∧ a.2.length ≤ i ∧ (∀ j, j < i → Sm 12 j = 0 → a.1 19 j = lf Sm j ∧ a.1 20 j = sd n Sm j ∧ a.1 23 j = 0 ∧ a.1 24 j = -1)) (fun o => ∃ S' Q, o = rv S' ∧ fr [0, 19, 20, 23, 24, 39] S S' ∧ (∀ i, i ≠ 7 → S' 0 i = S 0 i) ∧ S' 0 7 = nI Q.length ∧ hold (S' 39) Q ∧ Q.Pairwise (ahd Sm) ∧ (∀ j, j ∈ Q ↔ j < k ∧ Sm 12 j = 0) ∧ Q.length ≤ k ∧ (∀ j, j < k → Sm 12 j = 0 → S' 19 j = lf Sm j ∧ S' 20 j = sd n Sm j ∧ S' 23 j = 0 ∧ S' 24 j = -1)) ⟨fr.up (by simp), (fun i hi => by show up2 S 0 7 0 0 i = S 0 i; exact up2_n _ hi), rfl, (fun i m q => by cases q), List.Pairwise.nil, fun j => ⟨fun q => absurd q List.not_mem_nil, fun q => absurd q.1 (by omega)⟩, Nat.le_refl _, fun j q => absurd q (by omega)⟩ ?_ ?_
  · rintro fl i ⟨s1, L⟩ hi ⟨b1, b2, b3, b4, b5, b6, b7, b8⟩
    left
    dsimp only at b1 b2 b3 b4 b5 b6 b7 b8
    have hb : RB n k z s1 Sm := h.of (b1.mono (by decide)).bs bsM.rf
    have e11 : s1 3 11 = nI k := hb.2.2.1.1
    have e18 : s1 18 i = Sm 12 i := (hb.2.2.1.2.2.1.2 i).1
    by_cases c1 : Sm 12 i = 0
    · have f1 : fr [19] s1 (up2 s1 19 i (lf Sm i)) := fr.up (by simp)
      have hb1 : RB n k z (up2 s1 19 i (lf Sm i)) Sm := hb.of (f1.mono (by decide)).bs bsM.rf
      have f2 : fr [19, 20, 23, 24] s1 (up2 (up2 (up2 (up2 s1 19 i (lf Sm i)) 20 i (sd n Sm i)) 23 i 0) 24 i (-1)) := (((f1.tr (fr.up (l := [20]) (by simp))).tr (fr.up (l := [23]) (by simp))).tr (fr.up (l := [24]) (by simp))).mono (by decide)
      have hb2 : RB n k z (up2 (up2 (up2 (up2 s1 19 i (lf Sm i)) 20 i (sd n Sm i)) 23 i 0) 24 i (-1)) Sm := hb.of (f2.mono (by decide)).bs bsM.rf
      obtain ⟨S', L', d1, d2, d3, d4, d5, d6, d7, d8⟩ := hb2.queueMark hi (L := L) (by rw [f2 39 (by decide)]; exact b4) (by rw [f2 0 (by decide)]; exact b3) (fun j q => ((b6 j).mp q).1) b5 (by omega)
      have w19 : ∀ j, S' 19 j = if j = i then lf Sm i else s1 19 j := fun j => by rw [d2 19 (by decide), up2_o _ _ (show (19 : Nat) ≠ 24 by decide), up2_o _ _ (show (19 : Nat) ≠ 23 by decide), up2_o _ _ (show (19 : Nat) ≠ 20 by decide), up2_at, if_pos rfl]
      have w20 : ∀ j, S' 20 j = if j = i then sd n Sm i else s1 20 j := fun j => by rw [d2 20 (by decide), up2_o _ _ (show (20 : Nat) ≠ 24 by decide), up2_o _ _ (show (20 : Nat) ≠ 23 by decide), up2_at, if_pos rfl, up2_o _ _ (show (20 : Nat) ≠ 19 by decide)]
      have w23 : ∀ j, S' 23 j = if j = i then 0 else s1 23 j := fun j => by rw [d2 23 (by decide), up2_o _ _ (show (23 : Nat) ≠ 24 by decide), up2_at, if_pos rfl, up2_o _ _ (show (23 : Nat) ≠ 20 by decide), up2_o _ _ (show (23 : Nat) ≠ 19 by decide)]
      have w24 : ∀ j, S' 24 j = if j = i then -1 else s1 24 j := fun j => by rw [d2 24 (by decide), up2_at, if_pos rfl, up2_o _ _ (show (24 : Nat) ≠ 23 by decide), up2_o _ _ (show (24 : Nat) ≠ 20 by decide), up2_o _ _ (show (24 : Nat) ≠ 19 by decide)]
      refine ⟨(S', L'), ⟨((b1.tr f2).tr d2).mono (by decide), fun q hq => by show S' 0 q = S 0 q; rw [d3 q hq, f2 0 (by decide)]; exact b2 q hq, d4, d5, d6, fun j => ?_, by show L'.length ≤ i + 1; rw [d8]; omega, fun j hj hj0 => ?_⟩, ?_⟩
      · rw [d7 j, b6 j]
        constructor
        · rintro (e | ⟨q1, q2⟩)
          · rw [e]
            exact ⟨by omega, c1⟩
          · exact ⟨by omega, q2⟩
        · rintro ⟨q1, q2⟩
          by_cases e : j = i
          · exact Or.inl e
          · exact Or.inr ⟨by omega, q2⟩
      · show S' 19 j = lf Sm j ∧ S' 20 j = sd n Sm j ∧ S' 23 j = 0 ∧ S' 24 j = -1
        rw [w19, w20, w23, w24]
        by_cases e : j = i
        · subst e
          simp only [↓reduceIte]
          exact ⟨trivial, trivial, trivial, trivial⟩
        · simp only [if_neg e]
          exact b8 j (by omega) hj0
      · dsimp only
        rw [u_X5_queueMarks_15, e11, if_neg (nI_ge hi (by omega)), nI_clamp (show i < 2 ^ 31 by omega), e18, if_pos c1, hb.leftEdge hi]
        simp only [gA_nI (show i < 80 by omega) (show 80 < 2 ^ 31 by decide), cli_ri, hb1.chooseSide hi, nar0, d1, clv_rv, nI_1]
    · refine ⟨(s1, L), ⟨b1, b2, b3, b4, b5, fun j => ?_, Nat.le_succ_of_le b7, fun j hj hj0 => ?_⟩, ?_⟩
      · rw [b6 j]
        constructor
        · rintro ⟨q1, q2⟩
          exact ⟨by omega, q2⟩
        · rintro ⟨q1, q2⟩
          refine ⟨?_, q2⟩
          by_cases e : j = i
          · subst e
            exact absurd q2 c1
          · omega
      · refine b8 j ?_ hj0
        by_cases e : j = i
        · subst e
          exact absurd hj0 c1
        · omega
      · simp only [u_X5_queueMarks_15, e11, if_neg (nI_ge hi (by omega)), gA_nI (show i < 80 by omega) (by decide), nI_clamp (show i < 2 ^ 31 by omega), e18, if_neg c1, nI_1]
  · rintro fl ⟨s1, L⟩ ⟨b1, b2, b3, b4, b5, b6, b7, b8⟩
    dsimp only at b1 b2 b3 b4 b5 b6 b7 b8
    have e11 : s1 3 11 = nI k := by rw [b1 3 (by decide)]; exact h.2.2.1.1
    simp only [u_X5_queueMarks_15, e11, if_pos (nI_le (Nat.le_refl k) (by omega))]
    exact ⟨s1, L, rfl, b1, b2, b3, b4, b5, b6, b7, b8⟩
