/-! PURE PART: what the two have in common while places are found. -/
def fr (l : List Nat) (S S' : XS) : Prop := ∀ a, a ∉ l → S' a = S a
theorem fr.tr {l l' : List Nat} {S S' S2 : XS} (h : fr l S S') (h' : fr l' S' S2) : fr (l ++ l') S S2 := fun a ha => by
  rw [h' a (fun q => ha (List.mem_append_right _ q)), h a (fun q => ha (List.mem_append_left _ q))]
theorem fr.mono {l l' : List Nat} {S S' : XS} (h : fr l S S') (hl : ∀ a, a ∈ l → a ∈ l') : fr l' S S' := fun a ha => h a (fun q => ha (hl a q))
theorem fr.up {l : List Nat} {S : XS} {a i : Nat} {v : Int32} (h : a ∈ l) : fr l S (up2 S a i v) := fun b hb => by
  funext q
  exact up2_o _ _ (fun e => hb (e ▸ h))
theorem fr.rf {l : List Nat} {S : XS} : fr l S S := fun _ _ => rfl
def CX : List Nat := [0, 5, 6, 19, 20, 21, 22, 23, 24, 29, 30, 31, 32, 33, 34, 35, 36, 37, 38, 39]
theorem fr.bs {S S' : XS} (h : fr CX S S') : bsX S S' :=
  ⟨congrFun (h 1 (by decide)) 6, congrFun (h 3 (by decide)) 11, congrFun (h 4 (by decide)) 6, h 7 (by decide), h 8 (by decide), h 9 (by decide), h 10 (by decide), h 11 (by decide), h 12 (by decide), h 13 (by decide), h 14 (by decide), h 15 (by decide), h 16 (by decide), h 17 (by decide), h 18 (by decide), h 25 (by decide), h 26 (by decide), h 27 (by decide), h 28 (by decide)⟩
/-- an outline's blocks are the things T, as far as they are beyond the staff -/
def skyI (S : XS) (c M : Nat) (T : Int32 → Int32 → Int32 → Prop) : Prop := ∃ m, S c 4 = nI m ∧ m ≤ M ∧ ∀ f l h, 18 < h → (T f l h ↔ blk S c m f l h)
theorem blk_cg {S S' : XS} {c m : Nat} (h1 : ∀ b, b < m → S' (4 * c + 11) b = S (4 * c + 11) b ∧ S' (4 * c + 12) b = S (4 * c + 12) b ∧ S' (4 * c + 13) b = S (4 * c + 13) b) (f l h : Int32) : blk S' c m f l h ↔ blk S c m f l h := by
  unfold blk
  constructor
  · rintro ⟨b, q, q1, q2, q3⟩
    obtain ⟨e1, e2, e3⟩ := h1 b q
    exact ⟨b, q, by rw [← e1]; exact q1, by rw [← e2]; exact q2, by rw [← e3]; exact q3⟩
  · rintro ⟨b, q, q1, q2, q3⟩
    obtain ⟨e1, e2, e3⟩ := h1 b q
    exact ⟨b, q, by rw [e1]; exact q1, by rw [e2]; exact q2, by rw [e3]; exact q3⟩
theorem skyI.of {S S' : XS} {c M M' : Nat} {T T' : Int32 → Int32 → Int32 → Prop} (h : skyI S c M T) (h0 : S' c 4 = S c 4) (h1 : S' (4 * c + 11) = S (4 * c + 11)) (h2 : S' (4 * c + 12) = S (4 * c + 12)) (h3 : S' (4 * c + 13) = S (4 * c + 13)) (hM : M ≤ M') (hT : ∀ f l h, 18 < h → (T' f l h ↔ T f l h)) : skyI S' c M' T' := by
  obtain ⟨m, a1, a2, a3⟩ := h
  refine ⟨m, by rw [h0]; exact a1, by omega, fun f l h q => ?_⟩
  rw [hT f l h q, a3 f l h q, blk_cg (S := S) (S' := S') (fun b _ => by rw [h1, h2, h3]; exact ⟨rfl, rfl, rfl⟩)]
theorem p_cover5 {S : XS} {m : Nat} (hm : S 5 4 = nI m) (hlt : m < 170) (f l h : Int32) : m_X3_cover [.inr 5, .inl f, .inl l, .inl h] S = if h ≤ 18 then rv S else rv (up2 (up2 (up2 (up2 S 31 m f) 32 m l) 33 m h) 5 4 (nI (m + 1))) := by
  rw [u_X3_cover_5]
  have n1 : ¬ 170 ≤ nI m := by rw [show (170 : Int32) = nI 170 from rfl, nI_leI (by decide) (by omega)]; omega
  simp only [up2_o _ _ (show (5 : Nat) ≠ 31 by decide), up2_o _ _ (show (5 : Nat) ≠ 32 by decide), up2_o _ _ (show (5 : Nat) ≠ 33 by decide), hm, if_neg n1, gA_nI hlt (show 170 < 2 ^ 31 by decide), nI_clamp (show m < 2 ^ 31 by omega), nI_1]
theorem p_cover6 {S : XS} {m : Nat} (hm : S 6 4 = nI m) (hlt : m < 170) (f l h : Int32) : m_X3_cover [.inr 6, .inl f, .inl l, .inl h] S = if h ≤ 18 then rv S else rv (up2 (up2 (up2 (up2 S 35 m f) 36 m l) 37 m h) 6 4 (nI (m + 1))) := by
  rw [u_X3_cover_6]
  have n1 : ¬ 170 ≤ nI m := by rw [show (170 : Int32) = nI 170 from rfl, nI_leI (by decide) (by omega)]; omega
  simp only [up2_o _ _ (show (6 : Nat) ≠ 35 by decide), up2_o _ _ (show (6 : Nat) ≠ 36 by decide), up2_o _ _ (show (6 : Nat) ≠ 37 by decide), hm, if_neg n1, gA_nI hlt (show 170 < 2 ^ 31 by decide), nI_clamp (show m < 2 ^ 31 by omega), nI_1]
theorem p_cover {S : XS} {c m : Nat} {s : Int32} (hc : SC s c) (hm : S c 4 = nI m) (hlt : m < 170) (f l h : Int32) : m_X3_cover [.inr c, .inl f, .inl l, .inl h] S = if h ≤ 18 then rv S else rv (up2 (up2 (up2 (up2 S (4 * c + 11) m f) (4 * c + 12) m l) (4 * c + 13) m h) c 4 (nI (m + 1))) := by
  rcases hc with ⟨-, rfl⟩ | ⟨-, rfl⟩
  · exact p_cover5 hm hlt f l h
  · exact p_cover6 hm hlt f l h
theorem p_covers {S : XS} {c M : Nat} {s : Int32} {T : Int32 → Int32 → Int32 → Prop} (hc : SC s c) (hs : skyI S c M T) (hM : M < 170) (f l h : Int32) : ∃ S', m_X3_cover [.inr c, .inl f, .inl l, .inl h] S = rv S' ∧ fr [c, 4 * c + 11, 4 * c + 12, 4 * c + 13] S S' ∧ (∀ i, i ≠ 4 → S' c i = S c i) ∧ skyI S' c (M + 1) (fun f' l' h' => T f' l' h' ∨ (f' = f ∧ l' = l ∧ h' = h)) := by
  obtain ⟨m, a1, a2, a3⟩ := id hs
  rw [p_cover hc a1 (by omega)]
  by_cases q : h ≤ 18
  · refine ⟨S, by rw [if_pos q], fr.rf, fun _ _ => rfl, m, a1, by omega, fun f' l' h' w => ?_⟩
    rw [← a3 f' l' h' w]
    refine ⟨fun v => v.elim id (fun v => ?_), Or.inl⟩
    rw [v.2.2, ← Int32.not_le] at w
    exact absurd q w
  · refine ⟨_, by rw [if_neg q], ?_, ?_, m + 1, ?_, by omega, fun f' l' h' w => ?_⟩
    · exact ((((fr.up (l := [4 * c + 11]) (by simp)).tr (fr.up (l := [4 * c + 12]) (by simp))).tr (fr.up (l := [4 * c + 13]) (by simp))).tr (fr.up (l := [c]) (by simp))).mono (fun a ha => by simp at ha ⊢; omega)
    · intro i hi
      rw [up2_n _ hi, up2_o _ _ (show c ≠ 4 * c + 13 by omega), up2_o _ _ (show c ≠ 4 * c + 12 by omega), up2_o _ _ (show c ≠ 4 * c + 11 by omega)]
    · exact up2_s _
    · have hc1 : 4 * c + 11 ≠ c ∧ 4 * c + 12 ≠ c ∧ 4 * c + 13 ≠ c := by omega
      have e1 : ∀ b, up2 (up2 (up2 (up2 S (4 * c + 11) m f) (4 * c + 12) m l) (4 * c + 13) m h) c 4 (nI (m + 1)) (4 * c + 11) b = if b = m then f else S (4 * c + 11) b := fun b => by
        rw [up2_o _ _ hc1.1, up2_o _ _ (show 4 * c + 11 ≠ 4 * c + 13 by omega), up2_o _ _ (show 4 * c + 11 ≠ 4 * c + 12 by omega), up2_at, if_pos rfl]
      have e2 : ∀ b, up2 (up2 (up2 (up2 S (4 * c + 11) m f) (4 * c + 12) m l) (4 * c + 13) m h) c 4 (nI (m + 1)) (4 * c + 12) b = if b = m then l else S (4 * c + 12) b := fun b => by
        rw [up2_o _ _ hc1.2.1, up2_o _ _ (show 4 * c + 12 ≠ 4 * c + 13 by omega), up2_at, if_pos rfl, up2_o _ _ (show 4 * c + 12 ≠ 4 * c + 11 by omega)]
      have e3 : ∀ b, up2 (up2 (up2 (up2 S (4 * c + 11) m f) (4 * c + 12) m l) (4 * c + 13) m h) c 4 (nI (m + 1)) (4 * c + 13) b = if b = m then h else S (4 * c + 13) b := fun b => by
        rw [up2_o _ _ hc1.2.2, up2_at, if_pos rfl, up2_o _ _ (show 4 * c + 13 ≠ 4 * c + 12 by omega), up2_o _ _ (show 4 * c + 13 ≠ 4 * c + 11 by omega)]
      rw [blk_succ, e1, e2, e3, if_pos rfl, if_pos rfl, if_pos rfl]
      show (T f' l' h' ∨ (f' = f ∧ l' = l ∧ h' = h)) ↔ _
      rw [a3 f' l' h' w]
      refine or_congr (blk_cg (fun b hb => ?_) f' l' h').symm Iff.rfl
      rw [e1, e2, e3, if_neg (by omega), if_neg (by omega), if_neg (by omega)]
      exact ⟨rfl, rfl, rfl⟩
theorem p_greats {S : XS} {c M : Nat} {s : Int32} {T : Int32 → Int32 → Int32 → Prop} (hc : SC s c) (hs : skyI S c M T) (hM : M ≤ 170) (a b : Int32) : ∃ r, m_X3_greatest [.inr c, .inl a, .inl b] S = ri S r ∧ ∀ r', isX 18 (sel T a b) r' → r = r' := by
  obtain ⟨m, a1, a2, a3⟩ := hs
  obtain ⟨r, h1, h2⟩ := p_great hc a1 (by omega) a b
  refine ⟨r, h1, fun r' h3 => isX_un h2 h3 (fun h q => ?_)⟩
  unfold sel
  constructor
  · rintro ⟨f, l, w, v⟩
    exact ⟨f, l, (a3 f l h q).mpr w, v⟩
  · rintro ⟨f, l, w, v⟩
    exact ⟨f, l, (a3 f l h q).mp w, v⟩
theorem p_reach {S : XS} {c : Nat} {s : Int32} (hc : SC s c) (v : Int32) : m_X3_reachOut [.inr c, .inl v] S = rv (up2 S c 5 (if S c 5 < v then v else S c 5)) := by
  rcases hc with ⟨-, rfl⟩ | ⟨-, rfl⟩
  · exact u_X3_reachOut_5 S v
  · exact u_X3_reachOut_6 S v
theorem p_out {S : XS} {c : Nat} {s : Int32} (hc : SC s c) (k5 k6 : XS → Option RS) : clr (m_X5_outline [.inr 0, .inl s] S) k5 k6 = (if c = 5 then k5 S else k6 S) := by
  rcases hc with ⟨rfl, rfl⟩ | ⟨rfl, rfl⟩
  · rw [u_X5_outline]; rfl
  · rw [u_X5_outline]; rfl
theorem SC_of {s : Int32} (h : sdP s) : ∃ c, SC s c := by
  rcases h with e | e
  · exact ⟨5, Or.inl ⟨e, rfl⟩⟩
  · exact ⟨6, Or.inr ⟨e, rfl⟩⟩
theorem SC.sd {s : Int32} {c : Nat} (h : SC s c) : sdP s := by
  rcases h with ⟨e, -⟩ | ⟨e, -⟩
  · exact Or.inl e
  · exact Or.inr e
/-- outer ends -/
def OT (n z0 k : Nat) (S : XS) (s h : Int32) : Prop := (∃ j, j < z0 ∧ S 19 j = s ∧ h = S 21 j + S 20 j) ∨ (∃ j, j < k ∧ S 12 j = 0 ∧ S 13 j ≠ 0 ∧ sd n S j = s ∧ h = S 14 j + S 11 j)
def rwI (s : Int32) (kd : Nat) : Nat := 2 * kd + (if s = 1 then 0 else 1)
def J (n k z z0 t : Nat) (S Sm : XS) : Prop := RB n k z S Sm ∧ (Sm 0 26 = nI z0 ∧ z0 ≤ z) ∧ (∀ s c, SC s c → skyI S c (2 * n + z0 + t) (RT n n z0 k Sm s) ∧ isX 0 (OT n z0 k Sm s) (S c 5)) ∧ (∀ j, j < z0 → S 29 j = Sm 21 j ∧ S 30 j = Sm 21 j + Sm 20 j) ∧ (∀ s, sdP s → ∀ f l h, RT n n z0 k Sm s f l h → h.toInt ≤ 88 + 26 * z0 + 60 * t) ∧ (∀ s c kd, SC s c → kd < 10 → S (4 * c + 14) kd = (if Sm 22 (rwI s kd) = 0 then -100003 else Sm 23 (rwI s kd)))
/-- how many lie -/
def lc (S : XS) : Nat → Nat
  | 0 => 0
  | i + 1 => lc S i + (if S 12 i = 0 ∧ S 13 i ≠ 0 then 1 else 0)
theorem lc_le {S : XS} : ∀ i, lc S i ≤ i := by
  intro i
  induction i with
  | zero => exact Nat.le_refl _
  | succ i ih =>
    unfold lc
    split <;> omega
def jm (n : Nat) (S Sm : XS) (j : Nat) : Prop := S 19 j = lf Sm j ∧ S 20 j = sd n Sm j ∧ S 23 j = Sm 15 j ∧ (Sm 15 j = 0 ∨ Sm 15 j = 1) ∧ (Sm 13 j = 0 → S 24 j = -1) ∧ (Sm 13 j ≠ 0 → S 21 j = Sm 14 j ∧ S 22 j = Sm 14 j + Sm 11 j ∧ S 24 j = Sm 16 j ∧ 0 ≤ S 24 j)
def JM (n k t : Nat) (S Sm : XS) : Prop := S 0 8 = nI t ∧ Sm 0 19 = nI t ∧ t = lc Sm k ∧ ∀ j, j < k → Sm 12 j = 0 → jm n S Sm j
