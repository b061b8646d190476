/-! PURE PART: rows are laid. -/
theorem KK.lay {n k z t : Nat} {Q : List Nat} {S Sm : XS} (h : KK n k z Q t S Sm) {j : Nat} (hj : j < k) (h0 : Sm 12 j = 0) (hl : Sm 13 j = 0) {v b : Int32} (hb : b = 0 ∨ b = 1) (hb2 : S 23 j = b) (hv : 0 ≤ v.toInt ∧ v.toInt ≤ 108 + 26 * z + 60 * t) : ∃ S', m_X5_layAt [.inr 0, .inl (nI j), .inl v] S = rv S' ∧ KK n k z Q (t + 1) S' (mLie Sm j v b t) := by
  obtain ⟨S', e1, e2, e3, e4, e5, e6⟩ := h.1.lay h.2.1 hj h0 hl hb hb2 hv
  exact ⟨S', e1, e3, e4, ⟨by rw [e6]; exact h.2.2.1.1, by rw [e5 39 (by decide)]; exact h.2.2.1.2⟩, h.2.2.2.of bsM_lie⟩
theorem up2_comm {S : XS} {a b i j : Nat} {v w : Int32} (h : a ≠ b) : up2 (up2 S a i v) b j w = up2 (up2 S b j w) a i v := by
  funext x y
  by_cases e1 : x = a
  · subst e1
    rw [up2_o _ _ h, up2_at, if_pos rfl, up2_at, if_pos rfl, up2_o _ _ h]
  · by_cases e2 : x = b
    · subst e2
      rw [up2_at, if_pos rfl, up2_o _ _ e1, up2_o _ _ e1, up2_at, if_pos rfl]
    · rw [up2_o _ _ e2, up2_o _ _ e1, up2_o _ _ e1, up2_o _ _ e2]
/-- the reference's row is marked -/
def uR (i : Nat) (v : Int32) (S : XS) : XS := up2 (up2 S 22 i 1) 23 i v
theorem uR_up {i : Nat} {v : Int32} {S : XS} {a j : Nat} {w : Int32} (h1 : a ≠ 22) (h2 : a ≠ 23) : uR i v (up2 S a j w) = up2 (uR i v S) a j w := by
  unfold uR
  rw [up2_comm h1, up2_comm h2]
theorem uR_lie {i : Nat} {a : Int32} {Sm : XS} {j t : Nat} {v b : Int32} : uR i a (mLie Sm j v b t) = mLie (uR i a Sm) j v b t := by
  unfold mLie
  rw [uR_up (by decide) (by decide), uR_up (by decide) (by decide), uR_up (by decide) (by decide), uR_up (by decide) (by decide), uR_up (by decide) (by decide)]
theorem bsM.tr {S S1 S2 : XS} (h : bsM S S1) (h' : bsM S1 S2) : bsM S S2 := by
  obtain ⟨x1, x2, x3, x4, x5, x6, x7, x8, x9, x10, x11, x12, x13, x14, x15, x16, x17, x18, x19⟩ := h
  obtain ⟨m1, m2, m3, m4, m5, m6, m7, m8, m9, m10, m11, m12, m13, m14, m15, m16, m17, m18, m19⟩ := h'
  exact ⟨m1.trans x1, m2.trans x2, m3.trans x3, m4.trans x4, m5.trans x5, m6.trans x6, m7.trans x7, m8.trans x8, m9.trans x9, m10.trans x10, m11.trans x11, m12.trans x12, m13.trans x13, m14.trans x14, m15.trans x15, m16.trans x16, m17.trans x17, m18.trans x18, m19.trans x19⟩
theorem bsM_uR {i : Nat} {v : Int32} {S : XS} : bsM S (uR i v S) := ⟨rfl, rfl, rfl, rfl, rfl, rfl, rfl, rfl, rfl, rfl, rfl, rfl, rfl, rfl, rfl, rfl, rfl, rfl, rfl⟩
theorem lie_iff {Sm : XS} {m t : Nat} {v b : Int32} {D : Nat → Prop} {j : Nat} {R : List Nat} (h : D m) : (mLie Sm m v b t 13 j ≠ 0 ∨ (j ∈ R ∧ D j)) ↔ (Sm 13 j ≠ 0 ∨ (j ∈ m :: R ∧ D j)) := by
  rw [mLie_13, List.mem_cons]
  by_cases e : j = m
  · subst e
    rw [if_pos rfl]
    exact ⟨fun _ => Or.inr ⟨Or.inl rfl, h⟩, fun _ => Or.inl (by decide)⟩
  · rw [if_neg e]
    exact or_congr Iff.rfl ⟨fun w => ⟨Or.inr w.1, w.2⟩, fun w => ⟨w.1.resolve_left e, w.2⟩⟩
theorem skp_iff {A : Prop} {m j : Nat} {D : Nat → Prop} {R : List Nat} (h : ¬ D m) : (A ∨ (j ∈ R ∧ D j)) ↔ (A ∨ (j ∈ m :: R ∧ D j)) := by
  rw [List.mem_cons]
  refine or_congr Iff.rfl ⟨fun w => ⟨Or.inr w.1, w.2⟩, fun w => ⟨w.1.resolve_left (fun e => ?_), w.2⟩⟩
  subst e
  exact h w.2
theorem KK.rowMarks {n k z kd i0 : Nat} {s a3 a4 : Int32} {p : Nat → Bool} {Q : List Nat} (hkd : kd < 10) : ∀ (R P : List Nat) (fl fl' t : Nat) (S Sm : XS), Q = P ++ R → R.length < fl → R.length < fl' → KK n k z Q t S (uR i0 a4 Sm) → PP n kd s p Sm → hold (Sm 24) (Q.filter p) → (∀ j, j ∈ R → p j = true → Sm 13 j = 0) → ((∃ j, j ∈ R ∧ p j = true) → a3 = a4 ∧ 0 ≤ a4.toInt ∧ a4.toInt ≤ 108 + 26 * z + 60 * t) → ∃ S' Sm' t' f, b_X5_layRowMarks_3 fl [(0, .inr 0), (1, .inl (nI kd)), (2, .inl s), (3, .inl a3), (4, .inl (nI P.length))] [] S = rv S' ∧ b_X6_lieRow_151 fl' [(0, .inr 0), (1, .inl (nI kd)), (2, .inl s), (3, .inl (nI (Q.filter p).length)), (4, .inl a4), (5, .inl (nI (P.filter p).length))] [] Sm = b_X6_lieRow_151 (f + 1) [(0, .inr 0), (1, .inl (nI kd)), (2, .inl s), (3, .inl (nI (Q.filter p).length)), (4, .inl a4), (5, .inl (nI (Q.filter p).length))] [] Sm' ∧ KK n k z Q t' S' (uR i0 a4 Sm') ∧ fr [0, 13, 14, 15, 16] Sm Sm' ∧ bsM Sm Sm' ∧ (∀ j, Sm' 15 j = Sm 15 j) ∧ (∀ j, Sm' 13 j ≠ 0 ↔ (Sm 13 j ≠ 0 ∨ (j ∈ R ∧ (p j = true ∧ Sm 15 j ≠ 0)))) ∧ ((∀ j, j ∈ R → ¬ p j = true) → S' = S) := by
  intro R
  induction R with
  | nil =>
    intro P fl fl' t S Sm hQ h1 h2 h hp hG h0 hA
    obtain ⟨fl, rfl⟩ : ∃ q, fl = q + 1 := ⟨fl - 1, by omega⟩
    obtain ⟨fl', rfl⟩ : ∃ q, fl' = q + 1 := ⟨fl' - 1, by omega⟩
    rw [List.append_nil] at hQ
    subst hQ
    have hk80 := h.1.1.k80
    have hl := h.2.2.2.2.2
    exact ⟨S, Sm, t, fl', by rw [u_X5_layRowMarks_3, h.2.2.1.1, if_pos (nI_le (Nat.le_refl _) (by omega))], rfl, h, fr.rf, bsM.rf, fun _ => rfl, fun j => ⟨Or.inl, fun w => w.elim id (fun w => absurd w.1 List.not_mem_nil)⟩, fun _ => rfl⟩
  | cons m R ih =>
    intro P fl fl' t S Sm hQ h1 h2 h hp hG h0 hA
    rw [List.length_cons] at h1 h2
    obtain ⟨fl, rfl⟩ : ∃ q, fl = q + 1 := ⟨fl - 1, by omega⟩
    obtain ⟨hm, hm0, hm39, hlt, h80, hmR⟩ := h.mid hQ
    have hm0 : Sm 12 m = 0 := hm0
    have hk80 := h.1.1.k80
    have hQ' : Q = (P ++ [m]) ++ R := by rw [hQ, List.append_assoc]; rfl
    have hpl : (P.filter p).length ≤ P.length := flt_len
    have hpu : PP n kd s p (uR i0 a4 Sm) := hp.of bsM_uR
    obtain ⟨b1, b2, b3, b4, b5, b6⟩ := h.2.1.2.2.2 m hm hm0
    have b3 : S 23 m = Sm 15 m := b3
    have b4 : Sm 15 m = 0 ∨ Sm 15 m = 1 := b4
    have hx : b_X5_layRowMarks_3 (fl + 1) [(0, .inr 0), (1, .inl (nI kd)), (2, .inl s), (3, .inl a3), (4, .inl (nI P.length))] [] S = if (if p m = true then (1 : Int32) else 0) = 0 then b_X5_layRowMarks_3 fl [(0, .inr 0), (1, .inl (nI kd)), (2, .inl s), (3, .inl a3), (4, .inl (nI (P ++ [m]).length))] [] S else if Sm 15 m = 0 then b_X5_layRowMarks_3 fl [(0, .inr 0), (1, .inl (nI kd)), (2, .inl s), (3, .inl a3), (4, .inl (nI (P ++ [m]).length))] [] S else clv (m_X5_layAt [.inr 0, .inl (nI m), .inl a3] S) (fun S2 => b_X5_layRowMarks_3 fl [(0, .inr 0), (1, .inl (nI kd)), (2, .inl s), (3, .inl a3), (4, .inl (nI (P ++ [m]).length))] [] S2) := by
      rw [u_X5_layRowMarks_3, h.2.2.1.1, if_neg (nI_ge hlt (by omega)), nI_clamp (show P.length < 2 ^ 31 by omega), hm39]
      simp only [gA_nI (show P.length < 80 by omega) (show 80 < 2 ^ 31 by decide), h.isOf hpu hkd hm hm0, cli_ri, gA_nI (show m < 80 by omega) (show 80 < 2 ^ 31 by decide), nI_clamp (show m < 2 ^ 31 by omega), b3, nI_1, len_sn]
    rw [hx]
    by_cases c1 : p m = true
    · obtain ⟨fl', rfl⟩ : ∃ q, fl' = q + 1 := ⟨fl' - 1, by omega⟩
      have hGs : Q.filter p = P.filter p ++ m :: R.filter p := by rw [hQ, List.filter_append, List.filter_cons_of_pos c1]
      have hGl : (P.filter p).length < (Q.filter p).length := by rw [hGs, List.length_append, List.length_cons]; omega
      have hQl : (Q.filter p).length ≤ Q.length := flt_len
      have hfl : ((P ++ [m]).filter p).length = (P.filter p).length + 1 := by rw [flt_t c1, len_sn]
      have e24 : Sm 24 (P.filter p).length = nI m := by have := hG; rw [hGs] at this; exact this.mid
      have hy : b_X6_lieRow_151 (fl' + 1) [(0, .inr 0), (1, .inl (nI kd)), (2, .inl s), (3, .inl (nI (Q.filter p).length)), (4, .inl a4), (5, .inl (nI (P.filter p).length))] [] Sm = if Sm 15 m = 0 then b_X6_lieRow_151 fl' [(0, .inr 0), (1, .inl (nI kd)), (2, .inl s), (3, .inl (nI (Q.filter p).length)), (4, .inl a4), (5, .inl (nI ((P ++ [m]).filter p).length))] [] Sm else clv (m_X6_lie [.inr 0, .inl (nI m), .inl a4, .inl 1] Sm) (fun S1 => b_X6_lieRow_151 fl' [(0, .inr 0), (1, .inl (nI kd)), (2, .inl s), (3, .inl (nI (Q.filter p).length)), (4, .inl a4), (5, .inl (nI ((P ++ [m]).filter p).length))] [] S1) := by
        rw [u_X6_lieRow_151, if_neg (nI_ge hGl (by omega)), nI_clamp (show (P.filter p).length < 2 ^ 31 by omega), e24]
        simp only [gA_nI (show (P.filter p).length < 80 by omega) (show 80 < 2 ^ 31 by decide), gA_nI (show m < 80 by omega) (show 80 < 2 ^ 31 by decide), nI_clamp (show m < 2 ^ 31 by omega), nI_1, hfl]
      rw [hy, if_pos c1, if_neg (by decide)]
      by_cases c2 : Sm 15 m = 0
      · rw [if_pos c2, if_pos c2]
        obtain ⟨S', Sm', t', f, g1, g2, g3, g4, g5, g6, g7, g8⟩ := ih (P ++ [m]) fl fl' t S Sm hQ' (by omega) (by omega) h hp hG (fun j hj hpj => h0 j (List.mem_cons_of_mem _ hj) hpj) (fun ⟨j, q1, q2⟩ => hA ⟨j, List.mem_cons_of_mem _ q1, q2⟩)
        refine ⟨S', Sm', t', f, g1, g2, g3, g4, g5, g6, fun j => ?_, fun w => absurd c1 (w m List.mem_cons_self)⟩
        rw [g7 j]
        exact skp_iff (D := fun j => p j = true ∧ Sm 15 j ≠ 0) (fun w => w.2 c2)
      · rw [if_neg c2, if_neg c2]
        obtain ⟨k1, k2, k3⟩ := hA ⟨m, List.mem_cons_self, c1⟩
        subst k1
        have e15 : Sm 15 m = 1 := b4.resolve_left c2
        obtain ⟨S1, l1, l2⟩ := h.lay hm hm0 (h0 m List.mem_cons_self c1) (v := a3) (b := 1) (Or.inr rfl) (b3.trans e15) ⟨k2, k3⟩
        rw [← uR_lie] at l2
        rw [l1, clv_rv, q_lie (by omega) (Or.inr rfl) (show Sm 0 19 = nI t from h.2.1.2.1), clv_rv]
        obtain ⟨S', Sm', t', f, g1, g2, g3, g4, g5, g6, g7, g8⟩ := ih (P ++ [m]) fl fl' (t + 1) S1 (mLie Sm m a3 1 t) hQ' (by omega) (by omega) l2 (hp.of bsM_lie) hG (fun j hj hpj => by
          rw [mLie_13, if_neg (show ¬ j = m from fun q => hmR (q ▸ hj))]
          exact h0 j (List.mem_cons_of_mem _ hj) hpj) (fun _ => ⟨rfl, k2, by omega⟩)
        have w15 : ∀ j, mLie Sm m a3 1 t 15 j = Sm 15 j := by
          intro j
          rw [mLie_15]
          by_cases e : j = m
          · rw [if_pos e, e, e15]
          · rw [if_neg e]
        have fl : fr [0, 13, 14, 15, 16] Sm (mLie Sm m a3 1 t) := (((((fr.up (l := [14]) (by simp)).tr (fr.up (l := [15]) (by simp))).tr (fr.up (l := [13]) (by simp))).tr (fr.up (l := [16]) (by simp))).tr (fr.up (l := [0]) (by simp))).mono (by decide)
        refine ⟨S', Sm', t', f, g1, g2, g3, (fl.tr g4).mono (by decide), bsM_lie.tr g5, fun j => by rw [g6, w15], fun j => ?_, fun w => absurd c1 (w m List.mem_cons_self)⟩
        rw [g7 j, w15]
        exact lie_iff (D := fun j => p j = true ∧ Sm 15 j ≠ 0) ⟨c1, c2⟩
    · rw [if_neg c1, if_pos rfl]
      obtain ⟨S', Sm', t', f, g1, g2, g3, g4, g5, g6, g7, g8⟩ := ih (P ++ [m]) fl fl' t S Sm hQ' (by omega) (by omega) h hp hG (fun j hj hpj => h0 j (List.mem_cons_of_mem _ hj) hpj) (fun ⟨j, q1, q2⟩ => hA ⟨j, List.mem_cons_of_mem _ q1, q2⟩)
      rw [flt_f c1] at g2
      refine ⟨S', Sm', t', f, g1, g2, g3, g4, g5, g6, fun j => ?_, fun w => g8 (fun j hj => w j (List.mem_cons_of_mem _ hj))⟩
      rw [g7 j]
      exact skp_iff (D := fun j => p j = true ∧ Sm 15 j ≠ 0) (fun w => c1 w.1)
theorem KK.rowLate {n k z kd : Nat} {s : Int32} {p : Nat → Bool} {Q : List Nat} (hkd : kd < 10) : ∀ (R P : List Nat) (fl fl' t : Nat) (S Sm : XS) (a : Int32), Q = P ++ R → R.length < fl → R.length < fl' → KK n k z Q t S Sm → PP n kd s p Sm → hold (Sm 24) (Q.filter p) → (∀ j, j ∈ R → p j = true → Sm 15 j = 0 → Sm 13 j = 0) → ∃ S' Sm' t' a', b_X5_layLate_5 fl [(0, .inr 0), (1, .inl (nI kd)), (2, .inl s), (3, .inl a), (4, .inl (nI P.length))] [] S = ri S' a' ∧ b_X6_lieRow_230 fl' [(0, .inr 0), (3, .inl (nI (Q.filter p).length)), (6, .inl a), (7, .inl (nI (P.filter p).length))] [] Sm = ri Sm' a' ∧ KK n k z Q t' S' Sm' ∧ fr [0, 13, 14, 15, 16] Sm Sm' ∧ bsM Sm Sm' ∧ (∀ j, Sm' 15 j = Sm 15 j) ∧ (∀ j, Sm' 13 j ≠ 0 ↔ (Sm 13 j ≠ 0 ∨ (j ∈ R ∧ (p j = true ∧ Sm 15 j = 0)))) ∧ ((∀ j, j ∈ R → ¬ p j = true) → Sm' = Sm ∧ a' = a) := by
  intro R
  induction R with
  | nil =>
    intro P fl fl' t S Sm a hQ h1 h2 h hp hG h0
    obtain ⟨fl, rfl⟩ : ∃ q, fl = q + 1 := ⟨fl - 1, by omega⟩
    obtain ⟨fl', rfl⟩ : ∃ q, fl' = q + 1 := ⟨fl' - 1, by omega⟩
    rw [List.append_nil] at hQ
    subst hQ
    have hk80 := h.1.1.k80
    have hl := h.2.2.2.2.2
    have hf := flt_len (p := p) (Q := Q)
    exact ⟨S, Sm, t, a, by rw [u_X5_layLate_5, h.2.2.1.1, if_pos (nI_le (Nat.le_refl _) (by omega))], by rw [u_X6_lieRow_230, if_pos (nI_le (Nat.le_refl _) (by omega))], h, fr.rf, bsM.rf, fun _ => rfl, fun j => ⟨Or.inl, fun w => w.elim id (fun w => absurd w.1 List.not_mem_nil)⟩, fun _ => ⟨rfl, rfl⟩⟩
  | cons m R ih =>
    intro P fl fl' t S Sm a hQ h1 h2 h hp hG h0
    rw [List.length_cons] at h1 h2
    obtain ⟨fl, rfl⟩ : ∃ q, fl = q + 1 := ⟨fl - 1, by omega⟩
    obtain ⟨hm, hm0, hm39, hlt, h80, hmR⟩ := h.mid hQ
    have hk80 := h.1.1.k80
    have hQ' : Q = (P ++ [m]) ++ R := by rw [hQ, List.append_assoc]; rfl
    have hpl : (P.filter p).length ≤ P.length := flt_len
    obtain ⟨b1, b2, b3, b4, b5, b6⟩ := h.2.1.2.2.2 m hm hm0
    have hx : b_X5_layLate_5 (fl + 1) [(0, .inr 0), (1, .inl (nI kd)), (2, .inl s), (3, .inl a), (4, .inl (nI P.length))] [] S = if (if p m = true then (1 : Int32) else 0) = 0 then b_X5_layLate_5 fl [(0, .inr 0), (1, .inl (nI kd)), (2, .inl s), (3, .inl a), (4, .inl (nI (P ++ [m]).length))] [] S else if Sm 15 m = 0 then cli (m_X5_innerAlone [.inr 0, .inl (nI m)] S) (fun S2 r2 => clv (m_X5_layAt [.inr 0, .inl (nI m), .inl r2] S2) (fun S3 => b_X5_layLate_5 fl [(0, .inr 0), (1, .inl (nI kd)), (2, .inl s), (3, .inl (a + 1)), (4, .inl (nI (P ++ [m]).length))] [] S3)) else b_X5_layLate_5 fl [(0, .inr 0), (1, .inl (nI kd)), (2, .inl s), (3, .inl a), (4, .inl (nI (P ++ [m]).length))] [] S := by
      rw [u_X5_layLate_5, h.2.2.1.1, if_neg (nI_ge hlt (by omega)), nI_clamp (show P.length < 2 ^ 31 by omega), hm39]
      simp only [gA_nI (show P.length < 80 by omega) (show 80 < 2 ^ 31 by decide), h.isOf hp hkd hm hm0, cli_ri, gA_nI (show m < 80 by omega) (show 80 < 2 ^ 31 by decide), nI_clamp (show m < 2 ^ 31 by omega), b3, nI_1, len_sn]
    rw [hx]
    by_cases c1 : p m = true
    · obtain ⟨fl', rfl⟩ : ∃ q, fl' = q + 1 := ⟨fl' - 1, by omega⟩
      have hGs : Q.filter p = P.filter p ++ m :: R.filter p := by rw [hQ, List.filter_append, List.filter_cons_of_pos c1]
      have hGl : (P.filter p).length < (Q.filter p).length := by rw [hGs, List.length_append, List.length_cons]; omega
      have hQl : (Q.filter p).length ≤ Q.length := flt_len
      have hfl : ((P ++ [m]).filter p).length = (P.filter p).length + 1 := by rw [flt_t c1, len_sn]
      have e24 : Sm 24 (P.filter p).length = nI m := by have := hG; rw [hGs] at this; exact this.mid
      have hy : b_X6_lieRow_230 (fl' + 1) [(0, .inr 0), (3, .inl (nI (Q.filter p).length)), (6, .inl a), (7, .inl (nI (P.filter p).length))] [] Sm = if Sm 15 m = 0 then cli (m_X6_own [.inr 0, .inl (nI m)] Sm) (fun S1 r1 => clv (m_X6_lie [.inr 0, .inl (nI m), .inl r1, .inl 0] S1) (fun S2 => b_X6_lieRow_230 fl' [(0, .inr 0), (3, .inl (nI (Q.filter p).length)), (6, .inl (a + 1)), (7, .inl (nI ((P ++ [m]).filter p).length))] [] S2)) else b_X6_lieRow_230 fl' [(0, .inr 0), (3, .inl (nI (Q.filter p).length)), (6, .inl a), (7, .inl (nI ((P ++ [m]).filter p).length))] [] Sm := by
        rw [u_X6_lieRow_230, if_neg (nI_ge hGl (by omega)), nI_clamp (show (P.filter p).length < 2 ^ 31 by omega), e24]
        simp only [gA_nI (show (P.filter p).length < 80 by omega) (show 80 < 2 ^ 31 by decide), gA_nI (show m < 80 by omega) (show 80 < 2 ^ 31 by decide), nI_clamp (show m < 2 ^ 31 by omega), nI_1, hfl]
      rw [hy, if_pos c1, if_neg (by decide)]
      by_cases c2 : Sm 15 m = 0
      · rw [if_pos c2, if_pos c2]
        obtain ⟨r, o1, o2, o3, o4⟩ := h.1.own h.2.1 hm hm0
        obtain ⟨S1, l1, l2⟩ := h.lay hm hm0 (h0 m List.mem_cons_self c1 c2) (v := r) (b := 0) (Or.inl rfl) (b3.trans c2) ⟨by omega, o4⟩
        rw [o1, cli_ri, l1, clv_rv, o2, cli_ri, q_lie (by omega) (Or.inl rfl) h.2.1.2.1, clv_rv]
        have w15 : ∀ j, mLie Sm m r 0 t 15 j = Sm 15 j := by
          intro j
          rw [mLie_15]
          by_cases e : j = m
          · rw [if_pos e, e, c2]
          · rw [if_neg e]
        obtain ⟨S', Sm', t', a', g1, g2, g3, g4, g5, g6, g7, g8⟩ := ih (P ++ [m]) fl fl' (t + 1) S1 (mLie Sm m r 0 t) (a + 1) hQ' (by omega) (by omega) l2 (hp.of bsM_lie) hG (fun j hj hpj hj15 => by
          rw [w15] at hj15
          rw [mLie_13, if_neg (show ¬ j = m from fun q => hmR (q ▸ hj))]
          exact h0 j (List.mem_cons_of_mem _ hj) hpj hj15)
        have fl : fr [0, 13, 14, 15, 16] Sm (mLie Sm m r 0 t) := (((((fr.up (l := [14]) (by simp)).tr (fr.up (l := [15]) (by simp))).tr (fr.up (l := [13]) (by simp))).tr (fr.up (l := [16]) (by simp))).tr (fr.up (l := [0]) (by simp))).mono (by decide)
        refine ⟨S', Sm', t', a', g1, g2, g3, (fl.tr g4).mono (by decide), bsM_lie.tr g5, fun j => by rw [g6, w15], fun j => ?_, fun w => absurd c1 (w m List.mem_cons_self)⟩
        rw [g7 j, w15]
        exact lie_iff (D := fun j => p j = true ∧ Sm 15 j = 0) ⟨c1, c2⟩
      · rw [if_neg c2, if_neg c2]
        obtain ⟨S', Sm', t', a', g1, g2, g3, g4, g5, g6, g7, g8⟩ := ih (P ++ [m]) fl fl' t S Sm a hQ' (by omega) (by omega) h hp hG (fun j hj hpj => h0 j (List.mem_cons_of_mem _ hj) hpj)
        refine ⟨S', Sm', t', a', g1, g2, g3, g4, g5, g6, fun j => ?_, fun w => absurd c1 (w m List.mem_cons_self)⟩
        rw [g7 j]
        exact skp_iff (D := fun j => p j = true ∧ Sm 15 j = 0) (fun w => c2 w.2)
    · rw [if_neg c1, if_pos rfl]
      obtain ⟨S', Sm', t', a', g1, g2, g3, g4, g5, g6, g7, g8⟩ := ih (P ++ [m]) fl fl' t S Sm a hQ' (by omega) (by omega) h hp hG (fun j hj hpj => h0 j (List.mem_cons_of_mem _ hj) hpj)
      rw [flt_f c1] at g2
      refine ⟨S', Sm', t', a', g1, g2, g3, g4, g5, g6, fun j => ?_, fun w => g8 (fun j hj => w j (List.mem_cons_of_mem _ hj))⟩
      rw [g7 j]
      exact skp_iff (D := fun j => p j = true ∧ Sm 15 j = 0) (fun w => c1 w.1)
theorem KK.rowSet {n k z t : Nat} {Q : List Nat} {S Sm : XS} (h : KK n k z Q t S Sm) {s : Int32} {c kd : Nat} (hc : SC s c) (v : Int32) : KK n k z Q t (up2 S (4 * c + 14) kd v) (uR (rwI s kd) v Sm) := by
  have hcc : ∀ {s c}, SC s c → c = 5 ∨ c = 6 := fun hc => by rcases hc with ⟨-, rfl⟩ | ⟨-, rfl⟩ <;> simp
  have hc0 := hcc hc
  have f : fr [4 * c + 14] S (up2 S (4 * c + 14) kd v) := fr.up (by simp)
  have hJ := h.1
  have hlc : ∀ k, lc (uR (rwI s kd) v Sm) k = lc Sm k := by
    intro k
    induction k with
    | zero => rfl
    | succ k ih => unfold lc; rw [ih]; rfl
  refine ⟨⟨hJ.1.of (f.mono (fun a ha => by simp at ha; rcases hc0 with e | e <;> subst e <;> subst ha <;> decide)).bs bsM_uR, hJ.2.1, fun s' c' hc' => ?_, fun j hj => ?_, hJ.2.2.2.2.1, fun s' c' kd' hc' hkd' => ?_⟩, ⟨?_, h.2.1.2.1, by rw [hlc]; exact h.2.1.2.2.1, fun j hj h0 => ?_⟩, ⟨?_, ?_⟩, h.2.2.2.of bsM_uR⟩
  · have := hcc hc'
    obtain ⟨u1, u2⟩ := hJ.2.2.1 s' c' hc'
    exact ⟨u1.of (by rw [f c' (by simp; omega)]) (f _ (by simp; omega)) (f _ (by simp; omega)) (f _ (by simp; omega)) (Nat.le_refl _) (fun _ _ _ _ => Iff.rfl), by rw [f c' (by simp; omega)]; exact u2⟩
  · rw [f 29 (by simp; omega), f 30 (by simp; omega)]
    exact hJ.2.2.2.1 j hj
  · have hc1 := hcc hc'
    have e22 : uR (rwI s kd) v Sm 22 (rwI s' kd') = if rwI s' kd' = rwI s kd then 1 else Sm 22 (rwI s' kd') := by
      unfold uR
      rw [up2_o _ _ (by decide), up2_at, if_pos rfl]
    have e23 : uR (rwI s kd) v Sm 23 (rwI s' kd') = if rwI s' kd' = rwI s kd then v else Sm 23 (rwI s' kd') := by
      unfold uR
      rw [up2_at, if_pos rfl, up2_o _ _ (show (23 : Nat) ≠ 22 by decide)]
    have hrw : rwI s' kd' = rwI s kd ↔ c' = c ∧ kd' = kd := by
      unfold rwI
      rcases hc with ⟨x1, x2⟩ | ⟨x1, x2⟩ <;> rcases hc' with ⟨y1, y2⟩ | ⟨y1, y2⟩ <;> subst x1 <;> subst y1 <;> subst x2 <;> subst y2
      · rw [if_pos rfl]; omega
      · rw [if_pos rfl, if_neg (by decide)]; omega
      · rw [if_pos rfl, if_neg (by decide)]; omega
      · rw [if_neg (by decide)]; omega
    rw [e22, e23, up2_at]
    by_cases e : rwI s' kd' = rwI s kd
    · obtain ⟨k1, k2⟩ := hrw.mp e
      subst k1
      subst k2
      rw [if_pos rfl, if_pos rfl, if_pos e, if_pos e, if_neg (by decide)]
    · rw [if_neg e, if_neg e, ← hJ.2.2.2.2.2 s' c' kd' hc' hkd']
      by_cases e1 : 4 * c' + 14 = 4 * c + 14
      · rw [if_pos e1, if_neg (fun q => e (hrw.mpr ⟨by omega, q⟩)), e1]
      · rw [if_neg e1]
  · rw [f 0 (by simp)]
    exact h.2.1.1
  · have := h.2.1.2.2.2 j hj h0
    unfold jm at this ⊢
    rw [f 19 (by simp; omega), f 20 (by simp; omega), f 21 (by simp; omega), f 22 (by simp; omega), f 23 (by simp; omega), f 24 (by simp; omega)]
    exact this
  · rw [f 0 (by simp)]
    exact h.2.2.1.1
  · rw [f 39 (by simp; omega)]
    exact h.2.2.1.2
def HR (n k : Nat) (Sm : XS) : Prop := ∀ s kd, sdP s → kd < 10 → Sm 22 (rwI s kd) ≠ 0 → ∃ j, j < k ∧ Sm 12 j = 0 ∧ mK Sm j = kd ∧ sd n Sm j = s
theorem HR.of {n k : Nat} {Sm Sm' : XS} (h : HR n k Sm) (hb : bsM Sm Sm') (h22 : Sm' 22 = Sm 22) : HR n k Sm' := by
  have e12 : Sm' 12 = Sm 12 := hb.2.2.2.2.2.2.2.2.2.2.2.2.2.2.1
  unfold HR
  simp only [e12, h22, hb.e_mK, hb.e_sd]
  exact h
theorem p_layRow {S : XS} {s : Int32} {c kd : Nat} (hc : SC s c) (hkd : kd < 10) : m_X5_layRow [.inr 0, .inl (nI kd), .inl s] S = cli (m_X5_fillRow [.inr 0, .inl (nI kd), .inl s] S) (fun S1 r1 => clv (m_X5_layRowMarks [.inr 0, .inl (nI kd), .inl s, .inl r1] (up2 S1 (4 * c + 14) kd r1)) (fun S3 => cli (m_X5_layLate [.inr 0, .inl (nI kd), .inl s] S3) (fun S4 r4 => ri S4 r4))) := by
  rw [u_X5_layRow]
  congr 1
  funext S1 r1
  rw [p_out hc]
  rcases hc with ⟨-, rfl⟩ | ⟨-, rfl⟩
  · rw [if_pos rfl, gA_nI hkd (by decide), nI_clamp (by omega)]
  · rw [if_neg (by decide), gA_nI hkd (by decide), nI_clamp (by omega)]
theorem q_rowEnd {f : Nat} {Sm : XS} {s a4 : Int32} {c kd N : Nat} (hc : SC s c) (hkd : kd < 10) (hN : N ≤ 80) : b_X6_lieRow_151 (f + 1) [(0, .inr 0), (1, .inl (nI kd)), (2, .inl s), (3, .inl (nI N)), (4, .inl a4), (5, .inl (nI N))] [] Sm = b_X6_lieRow_230 fu [(0, .inr 0), (3, .inl (nI N)), (6, .inl 0), (7, .inl 0)] [] (uR (rwI s kd) a4 Sm) := by
  have e2 : 2 * nI kd = nI (2 * kd) := by rw [show (2 : Int32) = nI 2 from rfl, pk_mul]
  rw [u_X6_lieRow_151, if_pos (nI_le (Nat.le_refl _) (by omega)), e2]
  rcases hc with ⟨rfl, rfl⟩ | ⟨rfl, rfl⟩
  · rw [if_neg (by decide), Int32.add_zero, gA_nI (by omega) (by decide), gA_nI (by omega) (by decide), nI_clamp (by omega), nar1]
    rfl
  · rw [if_pos (by decide), nI_1, gA_nI (by omega) (by decide), gA_nI (by omega) (by decide), nI_clamp (by omega), nar1]
    rfl
theorem KK.row {n k z t : Nat} {Q : List Nat} {S Sm : XS} (h : KK n k z Q t S Sm) {s : Int32} {c kd : Nat} (hc : SC s c) (hkd : kd < 10) {p : Nat → Bool} (hp : PP n kd s p Sm) (hR : HR n k Sm) (h0 : ∀ j, j ∈ Q → p j = true → Sm 15 j = 0 ∧ Sm 13 j = 0) : ∃ S' Sm' t' a, m_X5_layRow [.inr 0, .inl (nI kd), .inl s] S = ri S' a ∧ m_X6_lieRow [.inr 0, .inl (nI kd), .inl s] Sm = ri Sm' a ∧ KK n k z Q t' S' Sm' ∧ HR n k Sm' ∧ bsM Sm Sm' ∧ (∀ j, Sm' 13 j ≠ 0 ↔ (Sm 13 j ≠ 0 ∨ (j ∈ Q ∧ p j = true))) ∧ (∀ j, ¬ (j ∈ Q ∧ p j = true) → Sm' 15 j = Sm 15 j) := by
  have hk80 := h.1.1.k80
  have hQ80 : Q.length ≤ 80 := by have := h.2.2.2.2.2; omega
  have hf80 := flt_len (p := p) (Q := Q)
  obtain ⟨Sm1, G, g1, g2, g3, g4, g5, g6⟩ := h.1.1.gather hkd s
  have hGQ : G = Q.filter p := by
    refine srt_un (lt := ahd Sm) (fun a => ahd_irr) (fun a b => ahd_as) g4 (h.2.2.2.1.filter p) (fun j => ?_)
    rw [g5 j, List.mem_filter, h.2.2.2.2.1 j, hp j, and_assoc]
  subst hGQ
  have h1 := h.fr24 g2
  have hb1 : bsM Sm Sm1 := g2.bm (by decide)
  have p1 := hp.of hb1
  have e13 : Sm1 13 = Sm 13 := g2 13 (by decide)
  have e15 : Sm1 15 = Sm 15 := g2 15 (by decide)
  have e22 : Sm1 22 = Sm 22 := g2 22 (by decide)
  obtain ⟨S2, Sm2, a3, a4, f1, f2, f3, f4, f5, f6, f7⟩ := KK.fill (n := n) (k := k) (z := z) (t := t) (s := s) (p := p) (Q := Q) hkd Q [] fu fu S Sm1 (-100003) 0 rfl (by rw [fu_eq]; omega) (by rw [fu_eq]; omega) h1 p1 g3 (fun j hj hpj => by rw [e13, e15]; exact h0 j hj hpj) (Or.inl ⟨rfl, rfl, rfl⟩)
  have hb2 : bsM Sm1 Sm2 := f5.bm (by decide)
  have p2 := p1.of hb2
  have hG2 : hold (Sm2 24) (Q.filter p) := by rw [f5 24 (by decide)]; exact g3
  rw [p_layRow hc hkd, u_X5_fillRow]
  rw [show b_X5_fillRow_6 fu [(0, .inr 0), (1, .inl (nI kd)), (2, .inl s), (3, .inl (-100003)), (4, .inl 0)] [] S = ri S2 a3 from f1, cli_ri, u_X5_layRowMarks]
  rw [u_X6_lieRow, g1, cli_ri]
  have e13' : Sm2 13 = Sm 13 := by rw [f5 13 (by decide), e13]
  have hset := f3.rowSet hc (kd := kd) (if Q.filter p = [] then -100003 else a4)
  by_cases hE : Q.filter p = []
  · have hno : ∀ j, j ∈ Q → ¬ p j = true := fun j q w => by
      have : j ∈ Q.filter p := List.mem_filter.mpr ⟨q, w⟩
      rw [hE] at this
      exact List.not_mem_nil this
    rw [if_pos hE] at hset
    have ea3 : a3 = -100003 := by
      rcases f6 with ⟨-, e, -⟩ | ⟨e, -⟩
      · exact e
      · exact absurd hE e
    have es : Sm2 = Sm1 := by
      funext a
      by_cases e : a = 15
      · rw [e]
        funext j
        exact f7 j (fun w => hno j w.1 w.2)
      · exact f5 a (by simp; exact e)
    have hr22 : Sm2 22 (rwI s kd) = 0 := by
      rw [es, e22]
      by_cases q : Sm 22 (rwI s kd) = 0
      · exact q
      · obtain ⟨j, w1, w2, w3⟩ := hR s kd hc.sd hkd q
        exact absurd ((hp j).mpr w3) (hno j ((h.2.2.2.2.1 j).mpr ⟨w1, w2⟩))
    have er : S2 (4 * c + 14) kd = -100003 := by rw [f3.1.2.2.2.2.2 s c kd hc hkd, if_pos hr22]
    rw [up2_id er] at hset
    rw [ea3, up2_id er]
    obtain ⟨S3, Sm3, t3, f, r1, r2, r3, r4, r5, r6, r7, r8⟩ := KK.rowMarks (n := n) (k := k) (z := z) (s := s) (a3 := -100003) (a4 := -100003) (p := p) (Q := Q) hkd Q [] fu fu t S2 Sm2 rfl (by rw [fu_eq]; omega) (by rw [fu_eq]; omega) hset p2 hG2 (fun j hj hpj => absurd hpj (hno j hj)) (fun ⟨j, q1, q2⟩ => absurd q2 (hno j q1))
    have e3 : S3 = S2 := r8 hno
    subst e3
    rw [show b_X5_layRowMarks_3 fu [(0, .inr 0), (1, .inl (nI kd)), (2, .inl s), (3, .inl (-100003)), (4, .inl 0)] [] S3 = rv S3 from r1, clv_rv, u_X5_layLate]
    obtain ⟨S4, Sm4, t4, a, l1, l2, l3, l4, l5, l6, l7, l8⟩ := KK.rowLate (n := n) (k := k) (z := z) (s := s) (p := p) (Q := Q) hkd Q [] fu fu t S3 Sm2 0 rfl (by rw [fu_eq]; omega) (by rw [fu_eq]; omega) f3 p2 hG2 (fun j hj hpj => absurd hpj (hno j hj))
    obtain ⟨e4, ea⟩ := l8 hno
    subst ea
    rw [show b_X5_layLate_5 fu [(0, .inr 0), (1, .inl (nI kd)), (2, .inl s), (3, .inl 0), (4, .inl 0)] [] S3 = ri S4 0 from l1, cli_ri]
    refine ⟨S4, Sm1, t4, 0, rfl, ?_, ?_, hR.of hb1 e22, hb1, fun j => ?_, fun j _ => by rw [e15]⟩
    · rw [hE, if_pos (by rfl)]
    · rw [e4, es] at l3
      exact l3
    · rw [e13]
      exact ⟨Or.inl, fun w => w.elim id (fun w => absurd w.2 (hno j w.1))⟩
  · rw [if_neg hE] at hset
    obtain ⟨-, ea3, A1, A2⟩ := f6.resolve_left (fun w => hE w.1)
    subst ea3
    have hGl : (Q.filter p).length ≠ 0 := fun q => hE (List.length_eq_zero_iff.mp q)
    have hne : ¬ nI (Q.filter p).length = 0 := by
      rw [show (0 : Int32) = nI 0 from rfl, nI_eq (by omega) (by decide)]
      exact hGl
    rw [if_neg hne, show b_X6_lieRow_19 fu [(0, .inr 0), (1, .inl (nI kd)), (2, .inl s), (3, .inl (nI (Q.filter p).length)), (4, .inl 0), (5, .inl 0)] [] Sm1 = _ from f2]
    obtain ⟨S3, Sm3, t3, f, r1, r2, r3, r4, r5, r6, r7, r8⟩ := KK.rowMarks (n := n) (k := k) (z := z) (s := s) (a3 := a3) (a4 := a3) (p := p) (Q := Q) hkd Q [] fu fu t (up2 S2 (4 * c + 14) kd a3) Sm2 rfl (by rw [fu_eq]; omega) (by rw [fu_eq]; omega) hset p2 hG2 (fun j hj hpj => by rw [e13']; exact (h0 j hj hpj).2) (fun _ => ⟨rfl, by omega, A2⟩)
    rw [show b_X5_layRowMarks_3 fu [(0, .inr 0), (1, .inl (nI kd)), (2, .inl s), (3, .inl a3), (4, .inl 0)] [] (up2 S2 (4 * c + 14) kd a3) = rv S3 from r1, clv_rv, u_X5_layLate]
    rw [show b_X6_lieRow_151 fu [(0, .inr 0), (1, .inl (nI kd)), (2, .inl s), (3, .inl (nI (Q.filter p).length)), (4, .inl a3), (5, .inl 0)] [] Sm2 = _ from r2, q_rowEnd hc hkd (by omega)]
    have p3 := (p2.of r5).of (bsM_uR (i := rwI s kd) (v := a3))
    have hG3 : hold (uR (rwI s kd) a3 Sm3 24) (Q.filter p) := by
      show hold (Sm3 24) (Q.filter p)
      rw [r4 24 (by decide)]
      exact hG2
    have w13 : ∀ j, uR (rwI s kd) a3 Sm3 13 j = Sm3 13 j := fun _ => rfl
    have w15 : ∀ j, uR (rwI s kd) a3 Sm3 15 j = Sm2 15 j := fun j => r6 j
    obtain ⟨S4, Sm4, t4, a, l1, l2, l3, l4, l5, l6, l7, l8⟩ := KK.rowLate (n := n) (k := k) (z := z) (s := s) (p := p) (Q := Q) hkd Q [] fu fu t3 S3 (uR (rwI s kd) a3 Sm3) 0 rfl (by rw [fu_eq]; omega) (by rw [fu_eq]; omega) r3 p3 hG3 (fun j hj hpj hj15 => by
      rw [w15] at hj15
      rw [w13]
      by_cases q : Sm3 13 j = 0
      · exact q
      · rcases (r7 j).mp q with v | v
        · rw [e13'] at v
          exact absurd (h0 j hj hpj).2 v
        · exact absurd hj15 v.2.2)
    rw [show b_X5_layLate_5 fu [(0, .inr 0), (1, .inl (nI kd)), (2, .inl s), (3, .inl 0), (4, .inl 0)] [] S3 = ri S4 a from l1, cli_ri]
    have hbb : bsM Sm (uR (rwI s kd) a3 Sm3) := ((hb1.tr hb2).tr r5).tr bsM_uR
    refine ⟨S4, Sm4, t4, a, rfl, l2, l3, ?_, hbb.tr l5, fun j => ?_, fun j hj => ?_⟩
    · have hR3 : HR n k (uR (rwI s kd) a3 Sm3) := by
        have hbase : HR n k Sm3 := hR.of ((hb1.tr hb2).tr r5) (by rw [r4 22 (by decide), f5 22 (by decide), e22])
        intro s' kd' hs' hkd' hq
        have e : uR (rwI s kd) a3 Sm3 22 (rwI s' kd') = if rwI s' kd' = rwI s kd then 1 else Sm3 22 (rwI s' kd') := by
          unfold uR
          rw [up2_o _ _ (by decide), up2_at, if_pos rfl]
        by_cases c1 : rwI s' kd' = rwI s kd
        · have : s' = s ∧ kd' = kd := by
            have hs := hc.sd
            unfold rwI at c1
            rcases hs with x | x <;> rcases hs' with y | y <;> subst x <;> subst y
            · rw [if_pos rfl] at c1
              exact ⟨rfl, by omega⟩
            · rw [if_pos rfl, if_neg (by decide)] at c1
              omega
            · rw [if_pos rfl, if_neg (by decide)] at c1
              omega
            · rw [if_neg (by decide)] at c1
              exact ⟨rfl, by omega⟩
          obtain ⟨j, hj⟩ := List.exists_mem_of_ne_nil _ hE
          obtain ⟨v1, v2⟩ := List.mem_filter.mp hj
          obtain ⟨v3, v4⟩ := (r3.2.2.2.2.1 j).mp v1
          rw [this.1, this.2]
          exact ⟨j, v3, v4, (p3 j).mp v2⟩
        · rw [e, if_neg c1] at hq
          exact hbase s' kd' hs' hkd' hq
      exact hR3.of l5 (l4 22 (by decide))
    · rw [l7 j, w13, w15, r7 j, e13', or_assoc]
      refine or_congr Iff.rfl ?_
      constructor
      · rintro (w | w)
        · exact ⟨w.1, w.2.1⟩
        · exact ⟨w.1, w.2.1⟩
      · rintro ⟨w1, w2⟩
        by_cases q : Sm2 15 j = 0
        · exact Or.inr ⟨w1, w2, q⟩
        · exact Or.inl ⟨w1, w2, q⟩
    · rw [l6, w15, f7 j hj, e15]
