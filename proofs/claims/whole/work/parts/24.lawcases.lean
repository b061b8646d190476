/-! what the two must agree on: Rel holds between their pictures -/
def PD (Rel : XS → XS → Prop) (mx mm : MT) (S Sm : XS) (t : List AV) : Prop := ∃ (S1 Sm1 : XS) (r : Int32), mx (.inr 0 :: t) S = some (S1, some (some (.inl r))) ∧ mm (.inr 0 :: t) Sm = some (Sm1, some (some (.inl r))) ∧ Rel S1 Sm1
def PW (Rel : XS → XS → Prop) (mx mm : MT) (S Sm : XS) (t : List AV) : Prop := ∃ (S1 Sm1 : XS) (r k : Int32), mm (.inr 0 :: t) Sm = some (Sm1, some (some (.inl r))) ∧ m_X6_thrown [.inr 0] Sm1 = some (Sm1, some (some (.inl k))) ∧ ((k = 0 ∧ mx (.inr 0 :: t) S = some (S1, some (some (.inl r)))) ∨ (k = 1 ∧ mx (.inr 0 :: t) S = some (S1, none))) ∧ Rel S1 Sm1
theorem cmp_same (x : Int64) : lg_cmp x x = 0 := by
  unfold lg_cmp
  simp

set_option maxHeartbeats 4000000 in
set_option maxRecDepth 100000 in
theorem law_note {p : Program} {l : Launch} {e : Env} {s : State} {m : MethodId} {below : List Frame} {meth : Method} {c : Code} {b L : Nat} {xs : Nat → Int32} {D : va_G} {cI cZ cJ : ClassId} {g gm : Nat → Nat} {qo : Nat} {AX AM : Nat → Prop} {Rel : XS → XS → Prop} {S Sm : XS} {f : Nat → Int64} {H : Heap} {locs : List Loc} {ls : Array Slot} {x4 : Int32} {cells slots : Nat} {Q : State → Prop} (C0 : lw_At p s m meth c b L xs) (hlt : l.stackTraces = false) (C : LC D cI cZ cJ g gm qo AX AM s) (hrel : PD Rel m_X5_note m_X6_note S Sm [.inl (xs (x4 + 1).toNatClampNeg), .inl (xs (x4 + 2).toNatClampNeg), .inl (xs (x4 + 3).toNatClampNeg), .inl (xs (x4 + 4).toNatClampNeg), .inl (xs (x4 + 5).toNatClampNeg)]) (hi1 : vp_in (x4 + 1) L) (hi2 : vp_in (x4 + 2) L) (hi3 : vp_in (x4 + 3) L) (hi4 : vp_in (x4 + 4) L) (hi5 : vp_in (x4 + 5) L) (hLW : LW D cI cZ cJ g gm qo S Sm f H) (hS : va_S (fun q : Nat => s.heap.size ≤ q) s.heap H locs) (hl : lv_has ls 7 [(0, .ref b), (1, .ref (g 0)), (2, .ref (gm 0)), (3, .ref qo), (4, .int x4)]) (hf : cells + 1 ≤ 1091 ∧ slots + 6 ≤ 11829)
    (kk : ∀ (S1 Sm1 : XS) (f1 : Nat → Int64) (H1 : Heap) (locs1 : List Loc) (ls1 : Array Slot), Rel S1 Sm1 → LW D cI cZ cJ g gm qo S1 Sm1 f1 H1 → va_S (fun q : Nat => s.heap.size ≤ q) s.heap H1 locs1 → lv_has ls1 7 [(0, .ref b), (1, .ref (g 0)), (2, .ref (gm 0)), (3, .ref qo), (4, .int x4)] → W p l e room_1 s m #[Value.ref b] below meth c H1 locs1 (cells + 1) (slots + 6) Q (F0 m 1059 ls1 [])) :
    W p l e room_1 s m #[Value.ref b] below meth c H locs cells slots Q (F0 m 128 ls []) := by
  obtain ⟨hx, hb, hr, hml, hown, hts, hX, hbl, hlocks, hgv⟩ := id C0
  have hbA : ¬ (fun q : Nat => s.heap.size ≤ q) b := Nat.not_le.mpr hbl
  obtain ⟨cD, cM, cAX, cAM, ⟨cq1, cq2, cq3⟩, -, -, -, cK, cN, cst, cstm⟩ := id C
  have hfc : cells ≤ room_1.cells ∧ slots ≤ room_1.slots := ⟨by show cells ≤ 1091; omega, by show slots ≤ 11829; omega⟩
  have hfcx := hfc
  obtain ⟨S1, Sm1, r, hsx, hsm, hrl⟩ := hrel
  refine lv_aload_n hx hb dL_law_128 rfl (lv_at hl 1 rfl) ?_
  refine lv_aload_n hx hb dL_law_129 rfl (lv_at hl 0 rfl) ?_
  refine lv_iload hx hb dL_law_130 (lv_at hl 4 rfl) ?_
  refine lv_iconst (v := 1) hx hb dL_law_132 (by decide) ?_
  refine lv_iadd hx hb dL_law_133 ?_
  refine va_sld hx hb hX hbl hbA hS hi1 dL_law_134 ?_
  refine lv_aload_n hx hb dL_law_135 rfl (lv_at hl 0 rfl) ?_
  refine lv_iload hx hb dL_law_136 (lv_at hl 4 rfl) ?_
  refine lv_iconst (v := 2) hx hb dL_law_138 (by decide) ?_
  refine lv_iadd hx hb dL_law_139 ?_
  refine va_sld hx hb hX hbl hbA hS hi2 dL_law_140 ?_
  refine lv_aload_n hx hb dL_law_141 rfl (lv_at hl 0 rfl) ?_
  refine lv_iload hx hb dL_law_142 (lv_at hl 4 rfl) ?_
  refine lv_iconst (v := 3) hx hb dL_law_144 (by decide) ?_
  refine lv_iadd hx hb dL_law_145 ?_
  refine va_sld hx hb hX hbl hbA hS hi3 dL_law_146 ?_
  refine lv_aload_n hx hb dL_law_147 rfl (lv_at hl 0 rfl) ?_
  refine lv_iload hx hb dL_law_148 (lv_at hl 4 rfl) ?_
  refine lv_iconst (v := 4) hx hb dL_law_150 (by decide) ?_
  refine lv_iadd hx hb dL_law_151 ?_
  refine va_sld hx hb hX hbl hbA hS hi4 dL_law_152 ?_
  refine lv_aload_n hx hb dL_law_153 rfl (lv_at hl 0 rfl) ?_
  refine lv_iload hx hb dL_law_154 (lv_at hl 4 rfl) ?_
  refine lv_iconst (v := 5) hx hb dL_law_156 (by decide) ?_
  refine lv_iadd hx hb dL_law_157 ?_
  refine va_sld hx hb hX hbl hbA hS hi5 dL_law_158 ?_
  refine lc_call (T := xT) (g := g) (A := AX) (n := 5) (t := [.inl (xs (x4 + 1).toNatClampNeg), .inl (xs (x4 + 2).toNatClampNeg), .inl (xs (x4 + 3).toNatClampNeg), .inl (xs (x4 + 4).toNatClampNeg), .inl (xs (x4 + 5).toNatClampNeg)]) (rest := []) hx hb hml hown hts cK cN cst cAX hl.1 (c_X5_note cD _ S _ rfl hsx) rfl (good_Vt kl_L_39 ki_X5_note ks_X5_note kn_X5 kc_X5_note) rfl ⟨rfl, rfl⟩ rfl rfl (by decide +kernel) ⟨by decide, by decide⟩ hfc (Nat.le_of_ble_eq_true rfl) dL_law_159 hLW.1 hS (fun H1 locs1 hP1 hk1 hS1 => ?_)
  have hLW1 := hLW.x C hP1 hk1
  refine lv_aload_n hx hb dL_law_162 rfl (lv_at hl 2 rfl) ?_
  refine lv_aload_n hx hb dL_law_163 rfl (lv_at hl 0 rfl) ?_
  refine lv_iload hx hb dL_law_164 (lv_at hl 4 rfl) ?_
  refine lv_iconst (v := 1) hx hb dL_law_166 (by decide) ?_
  refine lv_iadd hx hb dL_law_167 ?_
  refine va_sld hx hb hX hbl hbA hS1 hi1 dL_law_168 ?_
  refine lv_aload_n hx hb dL_law_169 rfl (lv_at hl 0 rfl) ?_
  refine lv_iload hx hb dL_law_170 (lv_at hl 4 rfl) ?_
  refine lv_iconst (v := 2) hx hb dL_law_172 (by decide) ?_
  refine lv_iadd hx hb dL_law_173 ?_
  refine va_sld hx hb hX hbl hbA hS1 hi2 dL_law_174 ?_
  refine lv_aload_n hx hb dL_law_175 rfl (lv_at hl 0 rfl) ?_
  refine lv_iload hx hb dL_law_176 (lv_at hl 4 rfl) ?_
  refine lv_iconst (v := 3) hx hb dL_law_178 (by decide) ?_
  refine lv_iadd hx hb dL_law_179 ?_
  refine va_sld hx hb hX hbl hbA hS1 hi3 dL_law_180 ?_
  refine lv_aload_n hx hb dL_law_181 rfl (lv_at hl 0 rfl) ?_
  refine lv_iload hx hb dL_law_182 (lv_at hl 4 rfl) ?_
  refine lv_iconst (v := 4) hx hb dL_law_184 (by decide) ?_
  refine lv_iadd hx hb dL_law_185 ?_
  refine va_sld hx hb hX hbl hbA hS1 hi4 dL_law_186 ?_
  refine lv_aload_n hx hb dL_law_187 rfl (lv_at hl 0 rfl) ?_
  refine lv_iload hx hb dL_law_188 (lv_at hl 4 rfl) ?_
  refine lv_iconst (v := 5) hx hb dL_law_190 (by decide) ?_
  refine lv_iadd hx hb dL_law_191 ?_
  refine va_sld hx hb hX hbl hbA hS1 hi5 dL_law_192 ?_
  refine lc_call (T := mT) (g := gm) (A := AM) (n := 5) (t := [.inl (xs (x4 + 1).toNatClampNeg), .inl (xs (x4 + 2).toNatClampNeg), .inl (xs (x4 + 3).toNatClampNeg), .inl (xs (x4 + 4).toNatClampNeg), .inl (xs (x4 + 5).toNatClampNeg)]) (rest := [.int r]) hx hb hml hown hts cK cN cstm cAM hl.1 (c_X6_note cM _ Sm _ rfl hsm) rfl (good_Vt kl_L_43 ki_X6_note ks_X6_note kn_X6 kc_X6_note) rfl ⟨rfl, rfl⟩ rfl rfl (by decide +kernel) ⟨by decide, by decide⟩ hfcx (Nat.le_of_ble_eq_true rfl) dL_law_193 hLW1.2.1 hS1 (fun H2 locs2 hP2 hk2 hS2 => ?_)
  have hLW2 := hLW1.m C hP2 hk2
  refine lv_icmp_eq (tgt := 1059) hx hb dL_law_196 (by decide) (fun _ => ?_) (fun hne => absurd rfl hne)
  refine W.widen (k := cells + 1) (n := slots + 6) (Nat.le_add_right _ _) (Nat.le_add_right _ _) ?_
  exact kk S1 Sm1 f H2 locs2 ls hrl hLW2 hS2 hl
set_option maxHeartbeats 4000000 in
set_option maxRecDepth 100000 in
theorem law_rest {p : Program} {l : Launch} {e : Env} {s : State} {m : MethodId} {below : List Frame} {meth : Method} {c : Code} {b L : Nat} {xs : Nat → Int32} {D : va_G} {cI cZ cJ : ClassId} {g gm : Nat → Nat} {qo : Nat} {AX AM : Nat → Prop} {Rel : XS → XS → Prop} {S Sm : XS} {f : Nat → Int64} {H : Heap} {locs : List Loc} {ls : Array Slot} {x4 : Int32} {cells slots : Nat} {Q : State → Prop} (C0 : lw_At p s m meth c b L xs) (hlt : l.stackTraces = false) (C : LC D cI cZ cJ g gm qo AX AM s) (hrel : PD Rel m_X5_rest m_X6_rest S Sm [.inl (xs (x4 + 1).toNatClampNeg), .inl (xs (x4 + 2).toNatClampNeg), .inl (xs (x4 + 3).toNatClampNeg)]) (hi1 : vp_in (x4 + 1) L) (hi2 : vp_in (x4 + 2) L) (hi3 : vp_in (x4 + 3) L) (hi4 : vp_in (x4 + 4) L) (hi5 : vp_in (x4 + 5) L) (hLW : LW D cI cZ cJ g gm qo S Sm f H) (hS : va_S (fun q : Nat => s.heap.size ≤ q) s.heap H locs) (hl : lv_has ls 7 [(0, .ref b), (1, .ref (g 0)), (2, .ref (gm 0)), (3, .ref qo), (4, .int x4)]) (hf : cells + 1 ≤ 1091 ∧ slots + 6 ≤ 11829)
    (kk : ∀ (S1 Sm1 : XS) (f1 : Nat → Int64) (H1 : Heap) (locs1 : List Loc) (ls1 : Array Slot), Rel S1 Sm1 → LW D cI cZ cJ g gm qo S1 Sm1 f1 H1 → va_S (fun q : Nat => s.heap.size ≤ q) s.heap H1 locs1 → lv_has ls1 7 [(0, .ref b), (1, .ref (g 0)), (2, .ref (gm 0)), (3, .ref qo), (4, .int x4)] → W p l e room_1 s m #[Value.ref b] below meth c H1 locs1 (cells + 1) (slots + 6) Q (F0 m 1059 ls1 [])) :
    W p l e room_1 s m #[Value.ref b] below meth c H locs cells slots Q (F0 m 201 ls []) := by
  obtain ⟨hx, hb, hr, hml, hown, hts, hX, hbl, hlocks, hgv⟩ := id C0
  have hbA : ¬ (fun q : Nat => s.heap.size ≤ q) b := Nat.not_le.mpr hbl
  obtain ⟨cD, cM, cAX, cAM, ⟨cq1, cq2, cq3⟩, -, -, -, cK, cN, cst, cstm⟩ := id C
  have hfc : cells ≤ room_1.cells ∧ slots ≤ room_1.slots := ⟨by show cells ≤ 1091; omega, by show slots ≤ 11829; omega⟩
  have hfcx := hfc
  obtain ⟨S1, Sm1, r, hsx, hsm, hrl⟩ := hrel
  refine lv_aload_n hx hb dL_law_201 rfl (lv_at hl 1 rfl) ?_
  refine lv_aload_n hx hb dL_law_202 rfl (lv_at hl 0 rfl) ?_
  refine lv_iload hx hb dL_law_203 (lv_at hl 4 rfl) ?_
  refine lv_iconst (v := 1) hx hb dL_law_205 (by decide) ?_
  refine lv_iadd hx hb dL_law_206 ?_
  refine va_sld hx hb hX hbl hbA hS hi1 dL_law_207 ?_
  refine lv_aload_n hx hb dL_law_208 rfl (lv_at hl 0 rfl) ?_
  refine lv_iload hx hb dL_law_209 (lv_at hl 4 rfl) ?_
  refine lv_iconst (v := 2) hx hb dL_law_211 (by decide) ?_
  refine lv_iadd hx hb dL_law_212 ?_
  refine va_sld hx hb hX hbl hbA hS hi2 dL_law_213 ?_
  refine lv_aload_n hx hb dL_law_214 rfl (lv_at hl 0 rfl) ?_
  refine lv_iload hx hb dL_law_215 (lv_at hl 4 rfl) ?_
  refine lv_iconst (v := 3) hx hb dL_law_217 (by decide) ?_
  refine lv_iadd hx hb dL_law_218 ?_
  refine va_sld hx hb hX hbl hbA hS hi3 dL_law_219 ?_
  refine lc_call (T := xT) (g := g) (A := AX) (n := 3) (t := [.inl (xs (x4 + 1).toNatClampNeg), .inl (xs (x4 + 2).toNatClampNeg), .inl (xs (x4 + 3).toNatClampNeg)]) (rest := []) hx hb hml hown hts cK cN cst cAX hl.1 (c_X5_rest cD _ S _ rfl hsx) rfl (good_Vt kl_L_44 ki_X5_rest ks_X5_rest kn_X5 kc_X5_rest) rfl ⟨rfl, rfl⟩ rfl rfl (by decide +kernel) ⟨by decide, by decide⟩ hfc (Nat.le_of_ble_eq_true rfl) dL_law_220 hLW.1 hS (fun H1 locs1 hP1 hk1 hS1 => ?_)
  have hLW1 := hLW.x C hP1 hk1
  refine lv_aload_n hx hb dL_law_223 rfl (lv_at hl 2 rfl) ?_
  refine lv_aload_n hx hb dL_law_224 rfl (lv_at hl 0 rfl) ?_
  refine lv_iload hx hb dL_law_225 (lv_at hl 4 rfl) ?_
  refine lv_iconst (v := 1) hx hb dL_law_227 (by decide) ?_
  refine lv_iadd hx hb dL_law_228 ?_
  refine va_sld hx hb hX hbl hbA hS1 hi1 dL_law_229 ?_
  refine lv_aload_n hx hb dL_law_230 rfl (lv_at hl 0 rfl) ?_
  refine lv_iload hx hb dL_law_231 (lv_at hl 4 rfl) ?_
  refine lv_iconst (v := 2) hx hb dL_law_233 (by decide) ?_
  refine lv_iadd hx hb dL_law_234 ?_
  refine va_sld hx hb hX hbl hbA hS1 hi2 dL_law_235 ?_
  refine lv_aload_n hx hb dL_law_236 rfl (lv_at hl 0 rfl) ?_
  refine lv_iload hx hb dL_law_237 (lv_at hl 4 rfl) ?_
  refine lv_iconst (v := 3) hx hb dL_law_239 (by decide) ?_
  refine lv_iadd hx hb dL_law_240 ?_
  refine va_sld hx hb hX hbl hbA hS1 hi3 dL_law_241 ?_
  refine lc_call (T := mT) (g := gm) (A := AM) (n := 3) (t := [.inl (xs (x4 + 1).toNatClampNeg), .inl (xs (x4 + 2).toNatClampNeg), .inl (xs (x4 + 3).toNatClampNeg)]) (rest := [.int r]) hx hb hml hown hts cK cN cstm cAM hl.1 (c_X6_rest cM _ Sm _ rfl hsm) rfl (good_Vt kl_L_47 ki_X6_rest ks_X6_rest kn_X6 kc_X6_rest) rfl ⟨rfl, rfl⟩ rfl rfl (by decide +kernel) ⟨by decide, by decide⟩ hfcx (Nat.le_of_ble_eq_true rfl) dL_law_242 hLW1.2.1 hS1 (fun H2 locs2 hP2 hk2 hS2 => ?_)
  have hLW2 := hLW1.m C hP2 hk2
  refine lv_icmp_eq (tgt := 1059) hx hb dL_law_245 (by decide) (fun _ => ?_) (fun hne => absurd rfl hne)
  refine W.widen (k := cells + 1) (n := slots + 6) (Nat.le_add_right _ _) (Nat.le_add_right _ _) ?_
  exact kk S1 Sm1 f H2 locs2 ls hrl hLW2 hS2 hl
set_option maxHeartbeats 4000000 in
set_option maxRecDepth 100000 in
theorem law_lift {p : Program} {l : Launch} {e : Env} {s : State} {m : MethodId} {below : List Frame} {meth : Method} {c : Code} {b L : Nat} {xs : Nat → Int32} {D : va_G} {cI cZ cJ : ClassId} {g gm : Nat → Nat} {qo : Nat} {AX AM : Nat → Prop} {Rel : XS → XS → Prop} {S Sm : XS} {f : Nat → Int64} {H : Heap} {locs : List Loc} {ls : Array Slot} {x4 : Int32} {cells slots : Nat} {Q : State → Prop} (C0 : lw_At p s m meth c b L xs) (hlt : l.stackTraces = false) (C : LC D cI cZ cJ g gm qo AX AM s) (hrel : PD Rel m_X5_lift m_X6_lift S Sm [.inl (xs (x4 + 1).toNatClampNeg), .inl (xs (x4 + 2).toNatClampNeg)]) (hi1 : vp_in (x4 + 1) L) (hi2 : vp_in (x4 + 2) L) (hi3 : vp_in (x4 + 3) L) (hi4 : vp_in (x4 + 4) L) (hi5 : vp_in (x4 + 5) L) (hLW : LW D cI cZ cJ g gm qo S Sm f H) (hS : va_S (fun q : Nat => s.heap.size ≤ q) s.heap H locs) (hl : lv_has ls 7 [(0, .ref b), (1, .ref (g 0)), (2, .ref (gm 0)), (3, .ref qo), (4, .int x4)]) (hf : cells + 1 ≤ 1091 ∧ slots + 6 ≤ 11829)
    (kk : ∀ (S1 Sm1 : XS) (f1 : Nat → Int64) (H1 : Heap) (locs1 : List Loc) (ls1 : Array Slot), Rel S1 Sm1 → LW D cI cZ cJ g gm qo S1 Sm1 f1 H1 → va_S (fun q : Nat => s.heap.size ≤ q) s.heap H1 locs1 → lv_has ls1 7 [(0, .ref b), (1, .ref (g 0)), (2, .ref (gm 0)), (3, .ref qo), (4, .int x4)] → W p l e room_1 s m #[Value.ref b] below meth c H1 locs1 (cells + 1) (slots + 6) Q (F0 m 1059 ls1 [])) :
    W p l e room_1 s m #[Value.ref b] below meth c H locs cells slots Q (F0 m 250 ls []) := by
  obtain ⟨hx, hb, hr, hml, hown, hts, hX, hbl, hlocks, hgv⟩ := id C0
  have hbA : ¬ (fun q : Nat => s.heap.size ≤ q) b := Nat.not_le.mpr hbl
  obtain ⟨cD, cM, cAX, cAM, ⟨cq1, cq2, cq3⟩, -, -, -, cK, cN, cst, cstm⟩ := id C
  have hfc : cells ≤ room_1.cells ∧ slots ≤ room_1.slots := ⟨by show cells ≤ 1091; omega, by show slots ≤ 11829; omega⟩
  have hfcx := hfc
  obtain ⟨S1, Sm1, r, hsx, hsm, hrl⟩ := hrel
  refine lv_aload_n hx hb dL_law_250 rfl (lv_at hl 1 rfl) ?_
  refine lv_aload_n hx hb dL_law_251 rfl (lv_at hl 0 rfl) ?_
  refine lv_iload hx hb dL_law_252 (lv_at hl 4 rfl) ?_
  refine lv_iconst (v := 1) hx hb dL_law_254 (by decide) ?_
  refine lv_iadd hx hb dL_law_255 ?_
  refine va_sld hx hb hX hbl hbA hS hi1 dL_law_256 ?_
  refine lv_aload_n hx hb dL_law_257 rfl (lv_at hl 0 rfl) ?_
  refine lv_iload hx hb dL_law_258 (lv_at hl 4 rfl) ?_
  refine lv_iconst (v := 2) hx hb dL_law_260 (by decide) ?_
  refine lv_iadd hx hb dL_law_261 ?_
  refine va_sld hx hb hX hbl hbA hS hi2 dL_law_262 ?_
  refine lc_call (T := xT) (g := g) (A := AX) (n := 2) (t := [.inl (xs (x4 + 1).toNatClampNeg), .inl (xs (x4 + 2).toNatClampNeg)]) (rest := []) hx hb hml hown hts cK cN cst cAX hl.1 (c_X5_lift cD _ S _ rfl hsx) rfl (good_Vt kl_L_48 ki_X5_lift ks_X5_lift kn_X5 kc_X5_lift) rfl ⟨rfl, rfl⟩ rfl rfl (by decide +kernel) ⟨by decide, by decide⟩ hfc (Nat.le_of_ble_eq_true rfl) dL_law_263 hLW.1 hS (fun H1 locs1 hP1 hk1 hS1 => ?_)
  have hLW1 := hLW.x C hP1 hk1
  refine lv_aload_n hx hb dL_law_266 rfl (lv_at hl 2 rfl) ?_
  refine lv_aload_n hx hb dL_law_267 rfl (lv_at hl 0 rfl) ?_
  refine lv_iload hx hb dL_law_268 (lv_at hl 4 rfl) ?_
  refine lv_iconst (v := 1) hx hb dL_law_270 (by decide) ?_
  refine lv_iadd hx hb dL_law_271 ?_
  refine va_sld hx hb hX hbl hbA hS1 hi1 dL_law_272 ?_
  refine lv_aload_n hx hb dL_law_273 rfl (lv_at hl 0 rfl) ?_
  refine lv_iload hx hb dL_law_274 (lv_at hl 4 rfl) ?_
  refine lv_iconst (v := 2) hx hb dL_law_276 (by decide) ?_
  refine lv_iadd hx hb dL_law_277 ?_
  refine va_sld hx hb hX hbl hbA hS1 hi2 dL_law_278 ?_
  refine lc_call (T := mT) (g := gm) (A := AM) (n := 2) (t := [.inl (xs (x4 + 1).toNatClampNeg), .inl (xs (x4 + 2).toNatClampNeg)]) (rest := [.int r]) hx hb hml hown hts cK cN cstm cAM hl.1 (c_X6_lift cM _ Sm _ rfl hsm) rfl (good_Vt kl_L_51 ki_X6_lift ks_X6_lift kn_X6 kc_X6_lift) rfl ⟨rfl, rfl⟩ rfl rfl (by decide +kernel) ⟨by decide, by decide⟩ hfcx (Nat.le_of_ble_eq_true rfl) dL_law_279 hLW1.2.1 hS1 (fun H2 locs2 hP2 hk2 hS2 => ?_)
  have hLW2 := hLW1.m C hP2 hk2
  refine lv_icmp_eq (tgt := 1059) hx hb dL_law_282 (by decide) (fun _ => ?_) (fun hne => absurd rfl hne)
  refine W.widen (k := cells + 1) (n := slots + 6) (Nat.le_add_right _ _) (Nat.le_add_right _ _) ?_
  exact kk S1 Sm1 f H2 locs2 ls hrl hLW2 hS2 hl
set_option maxHeartbeats 4000000 in
set_option maxRecDepth 100000 in
theorem law_set {p : Program} {l : Launch} {e : Env} {s : State} {m : MethodId} {below : List Frame} {meth : Method} {c : Code} {b L : Nat} {xs : Nat → Int32} {D : va_G} {cI cZ cJ : ClassId} {g gm : Nat → Nat} {qo : Nat} {AX AM : Nat → Prop} {Rel : XS → XS → Prop} {S Sm : XS} {f : Nat → Int64} {H : Heap} {locs : List Loc} {ls : Array Slot} {x4 : Int32} {cells slots : Nat} {Q : State → Prop} (C0 : lw_At p s m meth c b L xs) (hlt : l.stackTraces = false) (C : LC D cI cZ cJ g gm qo AX AM s) (hrel : PD Rel m_X5_set m_X6_set S Sm [.inl (xs (x4 + 1).toNatClampNeg), .inl (xs (x4 + 2).toNatClampNeg), .inl (xs (x4 + 3).toNatClampNeg)]) (hi1 : vp_in (x4 + 1) L) (hi2 : vp_in (x4 + 2) L) (hi3 : vp_in (x4 + 3) L) (hi4 : vp_in (x4 + 4) L) (hi5 : vp_in (x4 + 5) L) (hLW : LW D cI cZ cJ g gm qo S Sm f H) (hS : va_S (fun q : Nat => s.heap.size ≤ q) s.heap H locs) (hl : lv_has ls 7 [(0, .ref b), (1, .ref (g 0)), (2, .ref (gm 0)), (3, .ref qo), (4, .int x4)]) (hf : cells + 1 ≤ 1091 ∧ slots + 6 ≤ 11829)
    (kk : ∀ (S1 Sm1 : XS) (f1 : Nat → Int64) (H1 : Heap) (locs1 : List Loc) (ls1 : Array Slot), Rel S1 Sm1 → LW D cI cZ cJ g gm qo S1 Sm1 f1 H1 → va_S (fun q : Nat => s.heap.size ≤ q) s.heap H1 locs1 → lv_has ls1 7 [(0, .ref b), (1, .ref (g 0)), (2, .ref (gm 0)), (3, .ref qo), (4, .int x4)] → W p l e room_1 s m #[Value.ref b] below meth c H1 locs1 (cells + 1) (slots + 6) Q (F0 m 1059 ls1 [])) :
    W p l e room_1 s m #[Value.ref b] below meth c H locs cells slots Q (F0 m 287 ls []) := by
  obtain ⟨hx, hb, hr, hml, hown, hts, hX, hbl, hlocks, hgv⟩ := id C0
  have hbA : ¬ (fun q : Nat => s.heap.size ≤ q) b := Nat.not_le.mpr hbl
  obtain ⟨cD, cM, cAX, cAM, ⟨cq1, cq2, cq3⟩, -, -, -, cK, cN, cst, cstm⟩ := id C
  have hfc : cells ≤ room_1.cells ∧ slots ≤ room_1.slots := ⟨by show cells ≤ 1091; omega, by show slots ≤ 11829; omega⟩
  have hfcx := hfc
  obtain ⟨S1, Sm1, r, hsx, hsm, hrl⟩ := hrel
  refine lv_aload_n hx hb dL_law_287 rfl (lv_at hl 1 rfl) ?_
  refine lv_aload_n hx hb dL_law_288 rfl (lv_at hl 0 rfl) ?_
  refine lv_iload hx hb dL_law_289 (lv_at hl 4 rfl) ?_
  refine lv_iconst (v := 1) hx hb dL_law_291 (by decide) ?_
  refine lv_iadd hx hb dL_law_292 ?_
  refine va_sld hx hb hX hbl hbA hS hi1 dL_law_293 ?_
  refine lv_aload_n hx hb dL_law_294 rfl (lv_at hl 0 rfl) ?_
  refine lv_iload hx hb dL_law_295 (lv_at hl 4 rfl) ?_
  refine lv_iconst (v := 2) hx hb dL_law_297 (by decide) ?_
  refine lv_iadd hx hb dL_law_298 ?_
  refine va_sld hx hb hX hbl hbA hS hi2 dL_law_299 ?_
  refine lv_aload_n hx hb dL_law_300 rfl (lv_at hl 0 rfl) ?_
  refine lv_iload hx hb dL_law_301 (lv_at hl 4 rfl) ?_
  refine lv_iconst (v := 3) hx hb dL_law_303 (by decide) ?_
  refine lv_iadd hx hb dL_law_304 ?_
  refine va_sld hx hb hX hbl hbA hS hi3 dL_law_305 ?_
  refine lc_call (T := xT) (g := g) (A := AX) (n := 3) (t := [.inl (xs (x4 + 1).toNatClampNeg), .inl (xs (x4 + 2).toNatClampNeg), .inl (xs (x4 + 3).toNatClampNeg)]) (rest := []) hx hb hml hown hts cK cN cst cAX hl.1 (c_X5_set cD _ S _ rfl hsx) rfl (good_Vt kl_L_52 ki_X5_set ks_X5_set kn_X5 kc_X5_set) rfl ⟨rfl, rfl⟩ rfl rfl (by decide +kernel) ⟨by decide, by decide⟩ hfc (Nat.le_of_ble_eq_true rfl) dL_law_306 hLW.1 hS (fun H1 locs1 hP1 hk1 hS1 => ?_)
  have hLW1 := hLW.x C hP1 hk1
  refine lv_aload_n hx hb dL_law_309 rfl (lv_at hl 2 rfl) ?_
  refine lv_aload_n hx hb dL_law_310 rfl (lv_at hl 0 rfl) ?_
  refine lv_iload hx hb dL_law_311 (lv_at hl 4 rfl) ?_
  refine lv_iconst (v := 1) hx hb dL_law_313 (by decide) ?_
  refine lv_iadd hx hb dL_law_314 ?_
  refine va_sld hx hb hX hbl hbA hS1 hi1 dL_law_315 ?_
  refine lv_aload_n hx hb dL_law_316 rfl (lv_at hl 0 rfl) ?_
  refine lv_iload hx hb dL_law_317 (lv_at hl 4 rfl) ?_
  refine lv_iconst (v := 2) hx hb dL_law_319 (by decide) ?_
  refine lv_iadd hx hb dL_law_320 ?_
  refine va_sld hx hb hX hbl hbA hS1 hi2 dL_law_321 ?_
  refine lv_aload_n hx hb dL_law_322 rfl (lv_at hl 0 rfl) ?_
  refine lv_iload hx hb dL_law_323 (lv_at hl 4 rfl) ?_
  refine lv_iconst (v := 3) hx hb dL_law_325 (by decide) ?_
  refine lv_iadd hx hb dL_law_326 ?_
  refine va_sld hx hb hX hbl hbA hS1 hi3 dL_law_327 ?_
  refine lc_call (T := mT) (g := gm) (A := AM) (n := 3) (t := [.inl (xs (x4 + 1).toNatClampNeg), .inl (xs (x4 + 2).toNatClampNeg), .inl (xs (x4 + 3).toNatClampNeg)]) (rest := [.int r]) hx hb hml hown hts cK cN cstm cAM hl.1 (c_X6_set cM _ Sm _ rfl hsm) rfl (good_Vt kl_L_55 ki_X6_set ks_X6_set kn_X6 kc_X6_set) rfl ⟨rfl, rfl⟩ rfl rfl (by decide +kernel) ⟨by decide, by decide⟩ hfcx (Nat.le_of_ble_eq_true rfl) dL_law_328 hLW1.2.1 hS1 (fun H2 locs2 hP2 hk2 hS2 => ?_)
  have hLW2 := hLW1.m C hP2 hk2
  refine lv_icmp_eq (tgt := 1059) hx hb dL_law_331 (by decide) (fun _ => ?_) (fun hne => absurd rfl hne)
  refine W.widen (k := cells + 1) (n := slots + 6) (Nat.le_add_right _ _) (Nat.le_add_right _ _) ?_
  exact kk S1 Sm1 f H2 locs2 ls hrl hLW2 hS2 hl
set_option maxHeartbeats 4000000 in
set_option maxRecDepth 100000 in
theorem law_mark {p : Program} {l : Launch} {e : Env} {s : State} {m : MethodId} {below : List Frame} {meth : Method} {c : Code} {b L : Nat} {xs : Nat → Int32} {D : va_G} {cI cZ cJ : ClassId} {g gm : Nat → Nat} {qo : Nat} {AX AM : Nat → Prop} {Rel : XS → XS → Prop} {S Sm : XS} {f : Nat → Int64} {H : Heap} {locs : List Loc} {ls : Array Slot} {x4 : Int32} {cells slots : Nat} {Q : State → Prop} (C0 : lw_At p s m meth c b L xs) (hlt : l.stackTraces = false) (C : LC D cI cZ cJ g gm qo AX AM s) (hrel : PD Rel m_X5_mark m_X6_mark S Sm [.inl (xs (x4 + 1).toNatClampNeg), .inl (xs (x4 + 2).toNatClampNeg), .inl (xs (x4 + 3).toNatClampNeg), .inl (xs (x4 + 4).toNatClampNeg)]) (hi1 : vp_in (x4 + 1) L) (hi2 : vp_in (x4 + 2) L) (hi3 : vp_in (x4 + 3) L) (hi4 : vp_in (x4 + 4) L) (hi5 : vp_in (x4 + 5) L) (hLW : LW D cI cZ cJ g gm qo S Sm f H) (hS : va_S (fun q : Nat => s.heap.size ≤ q) s.heap H locs) (hl : lv_has ls 7 [(0, .ref b), (1, .ref (g 0)), (2, .ref (gm 0)), (3, .ref qo), (4, .int x4)]) (hf : cells + 1 ≤ 1091 ∧ slots + 6 ≤ 11829)
    (kk : ∀ (S1 Sm1 : XS) (f1 : Nat → Int64) (H1 : Heap) (locs1 : List Loc) (ls1 : Array Slot), Rel S1 Sm1 → LW D cI cZ cJ g gm qo S1 Sm1 f1 H1 → va_S (fun q : Nat => s.heap.size ≤ q) s.heap H1 locs1 → lv_has ls1 7 [(0, .ref b), (1, .ref (g 0)), (2, .ref (gm 0)), (3, .ref qo), (4, .int x4)] → W p l e room_1 s m #[Value.ref b] below meth c H1 locs1 (cells + 1) (slots + 6) Q (F0 m 1059 ls1 [])) :
    W p l e room_1 s m #[Value.ref b] below meth c H locs cells slots Q (F0 m 336 ls []) := by
  obtain ⟨hx, hb, hr, hml, hown, hts, hX, hbl, hlocks, hgv⟩ := id C0
  have hbA : ¬ (fun q : Nat => s.heap.size ≤ q) b := Nat.not_le.mpr hbl
  obtain ⟨cD, cM, cAX, cAM, ⟨cq1, cq2, cq3⟩, -, -, -, cK, cN, cst, cstm⟩ := id C
  have hfc : cells ≤ room_1.cells ∧ slots ≤ room_1.slots := ⟨by show cells ≤ 1091; omega, by show slots ≤ 11829; omega⟩
  have hfcx := hfc
  obtain ⟨S1, Sm1, r, hsx, hsm, hrl⟩ := hrel
  refine lv_aload_n hx hb dL_law_336 rfl (lv_at hl 1 rfl) ?_
  refine lv_aload_n hx hb dL_law_337 rfl (lv_at hl 0 rfl) ?_
  refine lv_iload hx hb dL_law_338 (lv_at hl 4 rfl) ?_
  refine lv_iconst (v := 1) hx hb dL_law_340 (by decide) ?_
  refine lv_iadd hx hb dL_law_341 ?_
  refine va_sld hx hb hX hbl hbA hS hi1 dL_law_342 ?_
  refine lv_aload_n hx hb dL_law_343 rfl (lv_at hl 0 rfl) ?_
  refine lv_iload hx hb dL_law_344 (lv_at hl 4 rfl) ?_
  refine lv_iconst (v := 2) hx hb dL_law_346 (by decide) ?_
  refine lv_iadd hx hb dL_law_347 ?_
  refine va_sld hx hb hX hbl hbA hS hi2 dL_law_348 ?_
  refine lv_aload_n hx hb dL_law_349 rfl (lv_at hl 0 rfl) ?_
  refine lv_iload hx hb dL_law_350 (lv_at hl 4 rfl) ?_
  refine lv_iconst (v := 3) hx hb dL_law_352 (by decide) ?_
  refine lv_iadd hx hb dL_law_353 ?_
  refine va_sld hx hb hX hbl hbA hS hi3 dL_law_354 ?_
  refine lv_aload_n hx hb dL_law_355 rfl (lv_at hl 0 rfl) ?_
  refine lv_iload hx hb dL_law_356 (lv_at hl 4 rfl) ?_
  refine lv_iconst (v := 4) hx hb dL_law_358 (by decide) ?_
  refine lv_iadd hx hb dL_law_359 ?_
  refine va_sld hx hb hX hbl hbA hS hi4 dL_law_360 ?_
  refine lc_call (T := xT) (g := g) (A := AX) (n := 4) (t := [.inl (xs (x4 + 1).toNatClampNeg), .inl (xs (x4 + 2).toNatClampNeg), .inl (xs (x4 + 3).toNatClampNeg), .inl (xs (x4 + 4).toNatClampNeg)]) (rest := []) hx hb hml hown hts cK cN cst cAX hl.1 (c_X5_mark cD _ S _ rfl hsx) rfl (good_Vt kl_L_56 ki_X5_mark ks_X5_mark kn_X5 kc_X5_mark) rfl ⟨rfl, rfl⟩ rfl rfl (by decide +kernel) ⟨by decide, by decide⟩ hfc (Nat.le_of_ble_eq_true rfl) dL_law_361 hLW.1 hS (fun H1 locs1 hP1 hk1 hS1 => ?_)
  have hLW1 := hLW.x C hP1 hk1
  refine lv_aload_n hx hb dL_law_364 rfl (lv_at hl 2 rfl) ?_
  refine lv_aload_n hx hb dL_law_365 rfl (lv_at hl 0 rfl) ?_
  refine lv_iload hx hb dL_law_366 (lv_at hl 4 rfl) ?_
  refine lv_iconst (v := 1) hx hb dL_law_368 (by decide) ?_
  refine lv_iadd hx hb dL_law_369 ?_
  refine va_sld hx hb hX hbl hbA hS1 hi1 dL_law_370 ?_
  refine lv_aload_n hx hb dL_law_371 rfl (lv_at hl 0 rfl) ?_
  refine lv_iload hx hb dL_law_372 (lv_at hl 4 rfl) ?_
  refine lv_iconst (v := 2) hx hb dL_law_374 (by decide) ?_
  refine lv_iadd hx hb dL_law_375 ?_
  refine va_sld hx hb hX hbl hbA hS1 hi2 dL_law_376 ?_
  refine lv_aload_n hx hb dL_law_377 rfl (lv_at hl 0 rfl) ?_
  refine lv_iload hx hb dL_law_378 (lv_at hl 4 rfl) ?_
  refine lv_iconst (v := 3) hx hb dL_law_380 (by decide) ?_
  refine lv_iadd hx hb dL_law_381 ?_
  refine va_sld hx hb hX hbl hbA hS1 hi3 dL_law_382 ?_
  refine lv_aload_n hx hb dL_law_383 rfl (lv_at hl 0 rfl) ?_
  refine lv_iload hx hb dL_law_384 (lv_at hl 4 rfl) ?_
  refine lv_iconst (v := 4) hx hb dL_law_386 (by decide) ?_
  refine lv_iadd hx hb dL_law_387 ?_
  refine va_sld hx hb hX hbl hbA hS1 hi4 dL_law_388 ?_
  refine lc_call (T := mT) (g := gm) (A := AM) (n := 4) (t := [.inl (xs (x4 + 1).toNatClampNeg), .inl (xs (x4 + 2).toNatClampNeg), .inl (xs (x4 + 3).toNatClampNeg), .inl (xs (x4 + 4).toNatClampNeg)]) (rest := [.int r]) hx hb hml hown hts cK cN cstm cAM hl.1 (c_X6_mark cM _ Sm _ rfl hsm) rfl (good_Vt kl_L_60 ki_X6_mark ks_X6_mark kn_X6 kc_X6_mark) rfl ⟨rfl, rfl⟩ rfl rfl (by decide +kernel) ⟨by decide, by decide⟩ hfcx (Nat.le_of_ble_eq_true rfl) dL_law_389 hLW1.2.1 hS1 (fun H2 locs2 hP2 hk2 hS2 => ?_)
  have hLW2 := hLW1.m C hP2 hk2
  refine lv_icmp_eq (tgt := 1059) hx hb dL_law_392 (by decide) (fun _ => ?_) (fun hne => absurd rfl hne)
  refine W.widen (k := cells + 1) (n := slots + 6) (Nat.le_add_right _ _) (Nat.le_add_right _ _) ?_
  exact kk S1 Sm1 f H2 locs2 ls hrl hLW2 hS2 hl
set_option maxHeartbeats 4000000 in
set_option maxRecDepth 100000 in
theorem law_drop {p : Program} {l : Launch} {e : Env} {s : State} {m : MethodId} {below : List Frame} {meth : Method} {c : Code} {b L : Nat} {xs : Nat → Int32} {D : va_G} {cI cZ cJ : ClassId} {g gm : Nat → Nat} {qo : Nat} {AX AM : Nat → Prop} {Rel : XS → XS → Prop} {S Sm : XS} {f : Nat → Int64} {H : Heap} {locs : List Loc} {ls : Array Slot} {x4 : Int32} {cells slots : Nat} {Q : State → Prop} (C0 : lw_At p s m meth c b L xs) (hlt : l.stackTraces = false) (C : LC D cI cZ cJ g gm qo AX AM s) (hrel : PD Rel m_X5_drop m_X6_drop S Sm [.inl (xs (x4 + 1).toNatClampNeg)]) (hi1 : vp_in (x4 + 1) L) (hi2 : vp_in (x4 + 2) L) (hi3 : vp_in (x4 + 3) L) (hi4 : vp_in (x4 + 4) L) (hi5 : vp_in (x4 + 5) L) (hLW : LW D cI cZ cJ g gm qo S Sm f H) (hS : va_S (fun q : Nat => s.heap.size ≤ q) s.heap H locs) (hl : lv_has ls 7 [(0, .ref b), (1, .ref (g 0)), (2, .ref (gm 0)), (3, .ref qo), (4, .int x4)]) (hf : cells + 1 ≤ 1091 ∧ slots + 6 ≤ 11829)
    (kk : ∀ (S1 Sm1 : XS) (f1 : Nat → Int64) (H1 : Heap) (locs1 : List Loc) (ls1 : Array Slot), Rel S1 Sm1 → LW D cI cZ cJ g gm qo S1 Sm1 f1 H1 → va_S (fun q : Nat => s.heap.size ≤ q) s.heap H1 locs1 → lv_has ls1 7 [(0, .ref b), (1, .ref (g 0)), (2, .ref (gm 0)), (3, .ref qo), (4, .int x4)] → W p l e room_1 s m #[Value.ref b] below meth c H1 locs1 (cells + 1) (slots + 6) Q (F0 m 1059 ls1 [])) :
    W p l e room_1 s m #[Value.ref b] below meth c H locs cells slots Q (F0 m 397 ls []) := by
  obtain ⟨hx, hb, hr, hml, hown, hts, hX, hbl, hlocks, hgv⟩ := id C0
  have hbA : ¬ (fun q : Nat => s.heap.size ≤ q) b := Nat.not_le.mpr hbl
  obtain ⟨cD, cM, cAX, cAM, ⟨cq1, cq2, cq3⟩, -, -, -, cK, cN, cst, cstm⟩ := id C
  have hfc : cells ≤ room_1.cells ∧ slots ≤ room_1.slots := ⟨by show cells ≤ 1091; omega, by show slots ≤ 11829; omega⟩
  have hfcx := hfc
  obtain ⟨S1, Sm1, r, hsx, hsm, hrl⟩ := hrel
  refine lv_aload_n hx hb dL_law_397 rfl (lv_at hl 1 rfl) ?_
  refine lv_aload_n hx hb dL_law_398 rfl (lv_at hl 0 rfl) ?_
  refine lv_iload hx hb dL_law_399 (lv_at hl 4 rfl) ?_
  refine lv_iconst (v := 1) hx hb dL_law_401 (by decide) ?_
  refine lv_iadd hx hb dL_law_402 ?_
  refine va_sld hx hb hX hbl hbA hS hi1 dL_law_403 ?_
  refine lc_call (T := xT) (g := g) (A := AX) (n := 1) (t := [.inl (xs (x4 + 1).toNatClampNeg)]) (rest := []) hx hb hml hown hts cK cN cst cAX hl.1 (c_X5_drop cD _ S _ rfl hsx) rfl (good_Vt kl_L_61 ki_X5_drop ks_X5_drop kn_X5 kc_X5_drop) rfl ⟨rfl, rfl⟩ rfl rfl (by decide +kernel) ⟨by decide, by decide⟩ hfc (Nat.le_of_ble_eq_true rfl) dL_law_404 hLW.1 hS (fun H1 locs1 hP1 hk1 hS1 => ?_)
  have hLW1 := hLW.x C hP1 hk1
  refine lv_aload_n hx hb dL_law_407 rfl (lv_at hl 2 rfl) ?_
  refine lv_aload_n hx hb dL_law_408 rfl (lv_at hl 0 rfl) ?_
  refine lv_iload hx hb dL_law_409 (lv_at hl 4 rfl) ?_
  refine lv_iconst (v := 1) hx hb dL_law_411 (by decide) ?_
  refine lv_iadd hx hb dL_law_412 ?_
  refine va_sld hx hb hX hbl hbA hS1 hi1 dL_law_413 ?_
  refine lc_call (T := mT) (g := gm) (A := AM) (n := 1) (t := [.inl (xs (x4 + 1).toNatClampNeg)]) (rest := [.int r]) hx hb hml hown hts cK cN cstm cAM hl.1 (c_X6_drop cM _ Sm _ rfl hsm) rfl (good_Vt kl_L_64 ki_X6_drop ks_X6_drop kn_X6 kc_X6_drop) rfl ⟨rfl, rfl⟩ rfl rfl (by decide +kernel) ⟨by decide, by decide⟩ hfcx (Nat.le_of_ble_eq_true rfl) dL_law_414 hLW1.2.1 hS1 (fun H2 locs2 hP2 hk2 hS2 => ?_)
  have hLW2 := hLW1.m C hP2 hk2
  refine lv_icmp_eq (tgt := 1059) hx hb dL_law_417 (by decide) (fun _ => ?_) (fun hne => absurd rfl hne)
  refine W.widen (k := cells + 1) (n := slots + 6) (Nat.le_add_right _ _) (Nat.le_add_right _ _) ?_
  exact kk S1 Sm1 f H2 locs2 ls hrl hLW2 hS2 hl
set_option maxHeartbeats 4000000 in
set_option maxRecDepth 100000 in
theorem law_slur {p : Program} {l : Launch} {e : Env} {s : State} {m : MethodId} {below : List Frame} {meth : Method} {c : Code} {b L : Nat} {xs : Nat → Int32} {D : va_G} {cI cZ cJ : ClassId} {g gm : Nat → Nat} {qo : Nat} {AX AM : Nat → Prop} {Rel : XS → XS → Prop} {S Sm : XS} {f : Nat → Int64} {H : Heap} {locs : List Loc} {ls : Array Slot} {x4 : Int32} {cells slots : Nat} {Q : State → Prop} (C0 : lw_At p s m meth c b L xs) (hlt : l.stackTraces = false) (C : LC D cI cZ cJ g gm qo AX AM s) (hrel : PD Rel m_X5_slur m_X6_slur S Sm [.inl (xs (x4 + 1).toNatClampNeg), .inl (xs (x4 + 2).toNatClampNeg), .inl (xs (x4 + 3).toNatClampNeg), .inl (xs (x4 + 4).toNatClampNeg)]) (hi1 : vp_in (x4 + 1) L) (hi2 : vp_in (x4 + 2) L) (hi3 : vp_in (x4 + 3) L) (hi4 : vp_in (x4 + 4) L) (hi5 : vp_in (x4 + 5) L) (hLW : LW D cI cZ cJ g gm qo S Sm f H) (hS : va_S (fun q : Nat => s.heap.size ≤ q) s.heap H locs) (hl : lv_has ls 7 [(0, .ref b), (1, .ref (g 0)), (2, .ref (gm 0)), (3, .ref qo), (4, .int x4)]) (hf : cells + 1 ≤ 1091 ∧ slots + 6 ≤ 11829)
    (kk : ∀ (S1 Sm1 : XS) (f1 : Nat → Int64) (H1 : Heap) (locs1 : List Loc) (ls1 : Array Slot), Rel S1 Sm1 → LW D cI cZ cJ g gm qo S1 Sm1 f1 H1 → va_S (fun q : Nat => s.heap.size ≤ q) s.heap H1 locs1 → lv_has ls1 7 [(0, .ref b), (1, .ref (g 0)), (2, .ref (gm 0)), (3, .ref qo), (4, .int x4)] → W p l e room_1 s m #[Value.ref b] below meth c H1 locs1 (cells + 1) (slots + 6) Q (F0 m 1059 ls1 [])) :
    W p l e room_1 s m #[Value.ref b] below meth c H locs cells slots Q (F0 m 422 ls []) := by
  obtain ⟨hx, hb, hr, hml, hown, hts, hX, hbl, hlocks, hgv⟩ := id C0
  have hbA : ¬ (fun q : Nat => s.heap.size ≤ q) b := Nat.not_le.mpr hbl
  obtain ⟨cD, cM, cAX, cAM, ⟨cq1, cq2, cq3⟩, -, -, -, cK, cN, cst, cstm⟩ := id C
  have hfc : cells ≤ room_1.cells ∧ slots ≤ room_1.slots := ⟨by show cells ≤ 1091; omega, by show slots ≤ 11829; omega⟩
  have hfcx := hfc
  obtain ⟨S1, Sm1, r, hsx, hsm, hrl⟩ := hrel
  refine lv_aload_n hx hb dL_law_422 rfl (lv_at hl 1 rfl) ?_
  refine lv_aload_n hx hb dL_law_423 rfl (lv_at hl 0 rfl) ?_
  refine lv_iload hx hb dL_law_424 (lv_at hl 4 rfl) ?_
  refine lv_iconst (v := 1) hx hb dL_law_426 (by decide) ?_
  refine lv_iadd hx hb dL_law_427 ?_
  refine va_sld hx hb hX hbl hbA hS hi1 dL_law_428 ?_
  refine lv_aload_n hx hb dL_law_429 rfl (lv_at hl 0 rfl) ?_
  refine lv_iload hx hb dL_law_430 (lv_at hl 4 rfl) ?_
  refine lv_iconst (v := 2) hx hb dL_law_432 (by decide) ?_
  refine lv_iadd hx hb dL_law_433 ?_
  refine va_sld hx hb hX hbl hbA hS hi2 dL_law_434 ?_
  refine lv_aload_n hx hb dL_law_435 rfl (lv_at hl 0 rfl) ?_
  refine lv_iload hx hb dL_law_436 (lv_at hl 4 rfl) ?_
  refine lv_iconst (v := 3) hx hb dL_law_438 (by decide) ?_
  refine lv_iadd hx hb dL_law_439 ?_
  refine va_sld hx hb hX hbl hbA hS hi3 dL_law_440 ?_
  refine lv_aload_n hx hb dL_law_441 rfl (lv_at hl 0 rfl) ?_
  refine lv_iload hx hb dL_law_442 (lv_at hl 4 rfl) ?_
  refine lv_iconst (v := 4) hx hb dL_law_444 (by decide) ?_
  refine lv_iadd hx hb dL_law_445 ?_
  refine va_sld hx hb hX hbl hbA hS hi4 dL_law_446 ?_
  refine lc_call (T := xT) (g := g) (A := AX) (n := 4) (t := [.inl (xs (x4 + 1).toNatClampNeg), .inl (xs (x4 + 2).toNatClampNeg), .inl (xs (x4 + 3).toNatClampNeg), .inl (xs (x4 + 4).toNatClampNeg)]) (rest := []) hx hb hml hown hts cK cN cst cAX hl.1 (c_X5_slur cD _ S _ rfl hsx) rfl (good_Vt kl_L_65 ki_X5_slur ks_X5_slur kn_X5 kc_X5_slur) rfl ⟨rfl, rfl⟩ rfl rfl (by decide +kernel) ⟨by decide, by decide⟩ hfc (Nat.le_of_ble_eq_true rfl) dL_law_447 hLW.1 hS (fun H1 locs1 hP1 hk1 hS1 => ?_)
  have hLW1 := hLW.x C hP1 hk1
  refine lv_aload_n hx hb dL_law_450 rfl (lv_at hl 2 rfl) ?_
  refine lv_aload_n hx hb dL_law_451 rfl (lv_at hl 0 rfl) ?_
  refine lv_iload hx hb dL_law_452 (lv_at hl 4 rfl) ?_
  refine lv_iconst (v := 1) hx hb dL_law_454 (by decide) ?_
  refine lv_iadd hx hb dL_law_455 ?_
  refine va_sld hx hb hX hbl hbA hS1 hi1 dL_law_456 ?_
  refine lv_aload_n hx hb dL_law_457 rfl (lv_at hl 0 rfl) ?_
  refine lv_iload hx hb dL_law_458 (lv_at hl 4 rfl) ?_
  refine lv_iconst (v := 2) hx hb dL_law_460 (by decide) ?_
  refine lv_iadd hx hb dL_law_461 ?_
  refine va_sld hx hb hX hbl hbA hS1 hi2 dL_law_462 ?_
  refine lv_aload_n hx hb dL_law_463 rfl (lv_at hl 0 rfl) ?_
  refine lv_iload hx hb dL_law_464 (lv_at hl 4 rfl) ?_
  refine lv_iconst (v := 3) hx hb dL_law_466 (by decide) ?_
  refine lv_iadd hx hb dL_law_467 ?_
  refine va_sld hx hb hX hbl hbA hS1 hi3 dL_law_468 ?_
  refine lv_aload_n hx hb dL_law_469 rfl (lv_at hl 0 rfl) ?_
  refine lv_iload hx hb dL_law_470 (lv_at hl 4 rfl) ?_
  refine lv_iconst (v := 4) hx hb dL_law_472 (by decide) ?_
  refine lv_iadd hx hb dL_law_473 ?_
  refine va_sld hx hb hX hbl hbA hS1 hi4 dL_law_474 ?_
  refine lc_call (T := mT) (g := gm) (A := AM) (n := 4) (t := [.inl (xs (x4 + 1).toNatClampNeg), .inl (xs (x4 + 2).toNatClampNeg), .inl (xs (x4 + 3).toNatClampNeg), .inl (xs (x4 + 4).toNatClampNeg)]) (rest := [.int r]) hx hb hml hown hts cK cN cstm cAM hl.1 (c_X6_slur cM _ Sm _ rfl hsm) rfl (good_Vt kl_L_68 ki_X6_slur ks_X6_slur kn_X6 kc_X6_slur) rfl ⟨rfl, rfl⟩ rfl rfl (by decide +kernel) ⟨by decide, by decide⟩ hfcx (Nat.le_of_ble_eq_true rfl) dL_law_475 hLW1.2.1 hS1 (fun H2 locs2 hP2 hk2 hS2 => ?_)
  have hLW2 := hLW1.m C hP2 hk2
  refine lv_icmp_eq (tgt := 1059) hx hb dL_law_478 (by decide) (fun _ => ?_) (fun hne => absurd rfl hne)
  refine W.widen (k := cells + 1) (n := slots + 6) (Nat.le_add_right _ _) (Nat.le_add_right _ _) ?_
  exact kk S1 Sm1 f H2 locs2 ls hrl hLW2 hS2 hl
set_option maxHeartbeats 4000000 in
set_option maxRecDepth 100000 in
theorem law_place {p : Program} {l : Launch} {e : Env} {s : State} {m : MethodId} {below : List Frame} {meth : Method} {c : Code} {b L : Nat} {xs : Nat → Int32} {D : va_G} {cI cZ cJ : ClassId} {g gm : Nat → Nat} {qo : Nat} {AX AM : Nat → Prop} {Rel : XS → XS → Prop} {S Sm : XS} {f : Nat → Int64} {H : Heap} {locs : List Loc} {ls : Array Slot} {x4 : Int32} {cells slots : Nat} {Q : State → Prop} (C0 : lw_At p s m meth c b L xs) (hlt : l.stackTraces = false) (C : LC D cI cZ cJ g gm qo AX AM s) (hrel : PD Rel m_X5_place m_X6_place S Sm []) (hi1 : vp_in (x4 + 1) L) (hi2 : vp_in (x4 + 2) L) (hi3 : vp_in (x4 + 3) L) (hi4 : vp_in (x4 + 4) L) (hi5 : vp_in (x4 + 5) L) (hLW : LW D cI cZ cJ g gm qo S Sm f H) (hS : va_S (fun q : Nat => s.heap.size ≤ q) s.heap H locs) (hl : lv_has ls 7 [(0, .ref b), (1, .ref (g 0)), (2, .ref (gm 0)), (3, .ref qo), (4, .int x4)]) (hf : cells + 1 ≤ 1091 ∧ slots + 6 ≤ 11829)
    (kk : ∀ (S1 Sm1 : XS) (f1 : Nat → Int64) (H1 : Heap) (locs1 : List Loc) (ls1 : Array Slot), Rel S1 Sm1 → LW D cI cZ cJ g gm qo S1 Sm1 f1 H1 → va_S (fun q : Nat => s.heap.size ≤ q) s.heap H1 locs1 → lv_has ls1 7 [(0, .ref b), (1, .ref (g 0)), (2, .ref (gm 0)), (3, .ref qo), (4, .int x4)] → W p l e room_1 s m #[Value.ref b] below meth c H1 locs1 (cells + 1) (slots + 6) Q (F0 m 1059 ls1 [])) :
    W p l e room_1 s m #[Value.ref b] below meth c H locs cells slots Q (F0 m 483 ls []) := by
  obtain ⟨hx, hb, hr, hml, hown, hts, hX, hbl, hlocks, hgv⟩ := id C0
  have hbA : ¬ (fun q : Nat => s.heap.size ≤ q) b := Nat.not_le.mpr hbl
  obtain ⟨cD, cM, cAX, cAM, ⟨cq1, cq2, cq3⟩, -, -, -, cK, cN, cst, cstm⟩ := id C
  have hfc : cells ≤ room_1.cells ∧ slots ≤ room_1.slots := ⟨by show cells ≤ 1091; omega, by show slots ≤ 11829; omega⟩
  have hfcx := hfc
  obtain ⟨S1, Sm1, r, hsx, hsm, hrl⟩ := hrel
  refine lv_aload_n hx hb dL_law_483 rfl (lv_at hl 1 rfl) ?_
  refine lc_call (T := xT) (g := g) (A := AX) (n := 0) (t := []) (rest := []) hx hb hml hown hts cK cN cst cAX hl.1 (c_X5_place cD _ S _ rfl hsx) rfl (good_Vt kl_L_69 ki_X5_place ks_X5_place kn_X5 kc_X5_place) rfl ⟨rfl, rfl⟩ rfl rfl (by decide +kernel) ⟨by decide, by decide⟩ hfc (Nat.le_of_ble_eq_true rfl) dL_law_484 hLW.1 hS (fun H1 locs1 hP1 hk1 hS1 => ?_)
  have hLW1 := hLW.x C hP1 hk1
  refine lv_aload_n hx hb dL_law_487 rfl (lv_at hl 2 rfl) ?_
  refine lc_call (T := mT) (g := gm) (A := AM) (n := 0) (t := []) (rest := [.int r]) hx hb hml hown hts cK cN cstm cAM hl.1 (c_X6_place cM _ Sm _ rfl hsm) rfl (good_Vt kl_L_73 ki_X6_place ks_X6_place kn_X6 kc_X6_place) rfl ⟨rfl, rfl⟩ rfl rfl (by decide +kernel) ⟨by decide, by decide⟩ hfcx (Nat.le_of_ble_eq_true rfl) dL_law_488 hLW1.2.1 hS1 (fun H2 locs2 hP2 hk2 hS2 => ?_)
  have hLW2 := hLW1.m C hP2 hk2
  refine lv_icmp_eq (tgt := 1059) hx hb dL_law_491 (by decide) (fun _ => ?_) (fun hne => absurd rfl hne)
  refine W.widen (k := cells + 1) (n := slots + 6) (Nat.le_add_right _ _) (Nat.le_add_right _ _) ?_
  exact kk S1 Sm1 f H2 locs2 ls hrl hLW2 hS2 hl
set_option maxHeartbeats 4000000 in
set_option maxRecDepth 100000 in
theorem law_at {p : Program} {l : Launch} {e : Env} {s : State} {m : MethodId} {below : List Frame} {meth : Method} {c : Code} {b L : Nat} {xs : Nat → Int32} {D : va_G} {cI cZ cJ : ClassId} {g gm : Nat → Nat} {qo : Nat} {AX AM : Nat → Prop} {Rel : XS → XS → Prop} {S Sm : XS} {f : Nat → Int64} {H : Heap} {locs : List Loc} {ls : Array Slot} {x4 : Int32} {cells slots : Nat} {Q : State → Prop} (C0 : lw_At p s m meth c b L xs) (hlt : l.stackTraces = false) (C : LC D cI cZ cJ g gm qo AX AM s) (hrel : PW Rel m_X5_at m_X6_at S Sm [.inl (xs (x4 + 1).toNatClampNeg), .inl (xs (x4 + 2).toNatClampNeg)]) (hi1 : vp_in (x4 + 1) L) (hi2 : vp_in (x4 + 2) L) (hi3 : vp_in (x4 + 3) L) (hi4 : vp_in (x4 + 4) L) (hi5 : vp_in (x4 + 5) L) (hLW : LW D cI cZ cJ g gm qo S Sm f H) (hS : va_S (fun q : Nat => s.heap.size ≤ q) s.heap H locs) (hl : lv_has ls 7 [(0, .ref b), (1, .ref (g 0)), (2, .ref (gm 0)), (3, .ref qo), (4, .int x4)]) (hf : cells + 1 ≤ 1091 ∧ slots + 6 ≤ 11829)
    (kk : ∀ (S1 Sm1 : XS) (f1 : Nat → Int64) (H1 : Heap) (locs1 : List Loc) (ls1 : Array Slot), Rel S1 Sm1 → LW D cI cZ cJ g gm qo S1 Sm1 f1 H1 → va_S (fun q : Nat => s.heap.size ≤ q) s.heap H1 locs1 → lv_has ls1 7 [(0, .ref b), (1, .ref (g 0)), (2, .ref (gm 0)), (3, .ref qo), (4, .int x4)] → W p l e room_1 s m #[Value.ref b] below meth c H1 locs1 (cells + 1) (slots + 6) Q (F0 m 1059 ls1 [])) :
    W p l e room_1 s m #[Value.ref b] below meth c H locs cells slots Q (F0 m 496 ls []) := by
  obtain ⟨hx, hb, hr, hml, hown, hts, hX, hbl, hlocks, hgv⟩ := id C0
  have hbA : ¬ (fun q : Nat => s.heap.size ≤ q) b := Nat.not_le.mpr hbl
  obtain ⟨cD, cM, cAX, cAM, ⟨cq1, cq2, cq3⟩, -, -, -, cK, cN, cst, cstm⟩ := id C
  have hfc : cells ≤ room_1.cells ∧ slots ≤ room_1.slots := ⟨by show cells ≤ 1091; omega, by show slots ≤ 11829; omega⟩
  obtain ⟨S1, Sm1, r, k, hsm, hth, hcase, hrl⟩ := hrel
  refine lv_aload_n hx hb dL_law_496 rfl (lv_at hl 1 rfl) ?_
  refine lv_aload_n hx hb dL_law_497 rfl (lv_at hl 0 rfl) ?_
  refine lv_iload hx hb dL_law_498 (lv_at hl 4 rfl) ?_
  refine lv_iconst (v := 1) hx hb dL_law_500 (by decide) ?_
  refine lv_iadd hx hb dL_law_501 ?_
  refine va_sld hx hb hX hbl hbA hS hi1 dL_law_502 ?_
  refine lv_aload_n hx hb dL_law_503 rfl (lv_at hl 0 rfl) ?_
  refine lv_iload hx hb dL_law_504 (lv_at hl 4 rfl) ?_
  refine lv_iconst (v := 2) hx hb dL_law_506 (by decide) ?_
  refine lv_iadd hx hb dL_law_507 ?_
  refine va_sld hx hb hX hbl hbA hS hi2 dL_law_508 ?_
  refine lv_aload_n hx hb dL_law_509 rfl (lv_at hl 3 rfl) ?_
  rcases hcase with ⟨rfl, hsx⟩ | ⟨rfl, hsx⟩
  · refine lc_wrap (A := AX) (n := 4) (av := [.ref (g 0), .int (xs (x4 + 1).toNatClampNeg), .int (xs (x4 + 2).toNatClampNeg), .ref qo]) (rest := []) (mc := 0) (ms := 0) hx hb hml hown hts cK cN cst cAX cq3 hl.1 (cWR_at cD cq1 hsx) rfl (good_St kl_L_74 kt_L_at kn_L kw_L_at) rfl ⟨rfl, rfl⟩ (by decide +kernel) ⟨by decide, by decide⟩ ⟨by show cells + 0 ≤ 1091; omega, by show slots + 0 ≤ 11829; omega⟩ (Nat.le_of_ble_eq_true rfl) dL_law_510 hLW.1 hLW.2.2 hS (fun H1 locs1 hP1 hk1 hS1 => ?_)
    have hLW1 := hLW.w C hP1 hk1
    have hfcx : cells + 0 ≤ room_1.cells ∧ slots + 0 ≤ room_1.slots := ⟨by show cells + 0 ≤ 1091; omega, by show slots + 0 ≤ 11829; omega⟩
    refine lv_istore (lv' := [(5, .int 0), (0, .ref b), (1, .ref (g 0)), (2, .ref (gm 0)), (3, .ref qo), (4, .int x4)]) hx hb dL_law_513 hl (by decide) rfl (fun ls hl => ?_)
    refine lv_aload_n hx hb dL_law_515 rfl (lv_at hl 3 rfl) ?_
    refine lv_aload_n hx hb dL_law_516 rfl (lv_at hl 1 rfl) ?_
    refine lv_iload hx hb dL_law_517 (lv_at hl 5 rfl) ?_
    refine lv_iconst (v := 1) hx hb dL_law_519 (by decide) ?_
    refine lv_iadd hx hb dL_law_520 ?_
    refine va_sld hx hb hX hbl hbA hS1 hi1 dL_law_521 ?_
    refine lv_aload_n hx hb dL_law_522 rfl (lv_at hl 1 rfl) ?_
    refine lv_iload hx hb dL_law_523 (lv_at hl 5 rfl) ?_
    refine lv_iconst (v := 2) hx hb dL_law_525 (by decide) ?_
    refine lv_iadd hx hb dL_law_526 ?_
    refine va_sld hx hb hX hbl hbA hS1 hi2 dL_law_527 ?_
    refine lc_call (T := mT) (g := gm) (A := AM) (n := 2) (t := [.inl (xs (x4 + 1).toNatClampNeg), .inl (xs (x4 + 2).toNatClampNeg)]) (rest := []) hx hb hml hown hts cK cN cstm cAM hl.1 (c_X6_at cM _ Sm _ rfl hsm) rfl (good_Vt kl_L_79 ki_X6_at ks_X6_at kn_X6 kc_X6_at) rfl ⟨rfl, rfl⟩ rfl rfl (by decide +kernel) ⟨by decide, by decide⟩ hfcx (Nat.le_of_ble_eq_true rfl) dL_law_528 hLW1.2.1 hS1 (fun H2 locs2 hP2 hk2 hS2 => ?_)
    have hLW2 := hLW1.m C hP2 hk2
    refine lv_istore (lv' := [(6, .int r), (5, .int 0), (0, .ref b), (1, .ref (g 0)), (2, .ref (gm 0)), (3, .ref qo), (4, .int x4)]) hx hb dL_law_531 hl (by decide) rfl (fun ls hl => ?_)
    refine lv_aload_n hx hb dL_law_533 rfl (lv_at hl 4 rfl) ?_
    refine lc_call (T := mT) (g := gm) (A := AM) (n := 0) (t := []) (rest := []) hx hb hml hown hts cK cN cstm cAM hl.1 (c_X6_thrown cM _ Sm1 _ rfl hth) rfl (good_Vt kl_L_80 ki_X6_thrown ks_X6_thrown kn_X6 kc_X6_thrown) rfl ⟨rfl, rfl⟩ rfl rfl (by decide +kernel) ⟨by decide, by decide⟩ hfcx (Nat.le_of_ble_eq_true rfl) dL_law_534 hLW2.2.1 hS2 (fun H3 locs3 hP3 hk3 hS3 => ?_)
    have hLW3 := hLW2.m C hP3 hk3
    refine lv_iload hx hb dL_law_537 (lv_at hl 1 rfl) ?_
    refine lv_icmp_eq (tgt := 544) hx hb dL_law_539 (by decide) (fun _ => ?_) (fun hne => absurd rfl hne)
    refine lv_iload hx hb dL_law_544 (lv_at hl 1 rfl) ?_
    refine lv_if_ne (tgt := 561) hx hb dL_law_546 (by decide) (fun hne => absurd rfl hne) (fun _ => ?_)
    refine lv_aload_n hx hb dL_law_549 rfl (lv_at hl 5 rfl) ?_
    refine lv_iconst (v := 0) hx hb dL_law_550 (by decide) ?_
    have hPo : va_P D vwCl [(qo, .inl (cJ, 1, .inr (.inl (vp_updL f (0 : Int32).toNatClampNeg r.toInt64))))] H3 := fun k x hx => by
      have hz : k < 1 := (List.getElem?_eq_some_iff.mp hx).1
      rw [show k = 0 by omega] at hx
      cases hx
      exact hLW3.2.2
    refine va_lald (D := D) hx hb cK hPo 0 2 rfl rfl (vp_in_iff.mpr (by decide)) dL_law_551 ?_
    rw [pk_uLs]
    refine lv_iload hx hb dL_law_552 (lv_at hl 0 rfl) ?_
    refine lv_i2l hx hb dL_law_554 rfl ?_
    refine W.lcmp hx hb dL_law_555 ?_
    refine lv_if_eq (tgt := 561) hx hb dL_law_556 (by decide) (fun _ => ?_) (fun hne => absurd (cmp_same _) hne)
    refine lv_goto (tgt := 1059) hx hb dL_law_561 (by decide) ?_
    refine W.widen (k := cells + 1) (n := slots + 6) (by omega) (by omega) ?_
    exact kk S1 Sm1 _ H3 locs3 ls hrl hLW3 hS3 (lv_sub hl [2, 3, 4, 5, 6] rfl)
  · refine lc_wrap (A := AX) (n := 4) (av := [.ref (g 0), .int (xs (x4 + 1).toNatClampNeg), .int (xs (x4 + 2).toNatClampNeg), .ref qo]) (rest := []) (mc := 1) (ms := 6) hx hb hml hown hts cK cN cst cAX cq3 hl.1 (cWT_at cD cq1 hlt hsx) rfl (good_St kl_L_74 kt_L_at kn_L kw_L_at) rfl ⟨rfl, rfl⟩ (by decide +kernel) ⟨by decide, by decide⟩ ⟨by show cells + 1 ≤ 1091; omega, by show slots + 6 ≤ 11829; omega⟩ (Nat.le_of_ble_eq_true rfl) dL_law_510 hLW.1 hLW.2.2 hS (fun H1 locs1 hP1 hk1 hS1 => ?_)
    have hLW1 := hLW.w C hP1 hk1
    have hfcx : cells + 1 ≤ room_1.cells ∧ slots + 6 ≤ room_1.slots := ⟨by show cells + 1 ≤ 1091; omega, by show slots + 6 ≤ 11829; omega⟩
    refine lv_istore (lv' := [(5, .int 1), (0, .ref b), (1, .ref (g 0)), (2, .ref (gm 0)), (3, .ref qo), (4, .int x4)]) hx hb dL_law_513 hl (by decide) rfl (fun ls hl => ?_)
    refine lv_aload_n hx hb dL_law_515 rfl (lv_at hl 3 rfl) ?_
    refine lv_aload_n hx hb dL_law_516 rfl (lv_at hl 1 rfl) ?_
    refine lv_iload hx hb dL_law_517 (lv_at hl 5 rfl) ?_
    refine lv_iconst (v := 1) hx hb dL_law_519 (by decide) ?_
    refine lv_iadd hx hb dL_law_520 ?_
    refine va_sld hx hb hX hbl hbA hS1 hi1 dL_law_521 ?_
    refine lv_aload_n hx hb dL_law_522 rfl (lv_at hl 1 rfl) ?_
    refine lv_iload hx hb dL_law_523 (lv_at hl 5 rfl) ?_
    refine lv_iconst (v := 2) hx hb dL_law_525 (by decide) ?_
    refine lv_iadd hx hb dL_law_526 ?_
    refine va_sld hx hb hX hbl hbA hS1 hi2 dL_law_527 ?_
    refine lc_call (T := mT) (g := gm) (A := AM) (n := 2) (t := [.inl (xs (x4 + 1).toNatClampNeg), .inl (xs (x4 + 2).toNatClampNeg)]) (rest := []) hx hb hml hown hts cK cN cstm cAM hl.1 (c_X6_at cM _ Sm _ rfl hsm) rfl (good_Vt kl_L_79 ki_X6_at ks_X6_at kn_X6 kc_X6_at) rfl ⟨rfl, rfl⟩ rfl rfl (by decide +kernel) ⟨by decide, by decide⟩ hfcx (Nat.le_of_ble_eq_true rfl) dL_law_528 hLW1.2.1 hS1 (fun H2 locs2 hP2 hk2 hS2 => ?_)
    have hLW2 := hLW1.m C hP2 hk2
    refine lv_istore (lv' := [(6, .int r), (5, .int 1), (0, .ref b), (1, .ref (g 0)), (2, .ref (gm 0)), (3, .ref qo), (4, .int x4)]) hx hb dL_law_531 hl (by decide) rfl (fun ls hl => ?_)
    refine lv_aload_n hx hb dL_law_533 rfl (lv_at hl 4 rfl) ?_
    refine lc_call (T := mT) (g := gm) (A := AM) (n := 0) (t := []) (rest := []) hx hb hml hown hts cK cN cstm cAM hl.1 (c_X6_thrown cM _ Sm1 _ rfl hth) rfl (good_Vt kl_L_80 ki_X6_thrown ks_X6_thrown kn_X6 kc_X6_thrown) rfl ⟨rfl, rfl⟩ rfl rfl (by decide +kernel) ⟨by decide, by decide⟩ hfcx (Nat.le_of_ble_eq_true rfl) dL_law_534 hLW2.2.1 hS2 (fun H3 locs3 hP3 hk3 hS3 => ?_)
    have hLW3 := hLW2.m C hP3 hk3
    refine lv_iload hx hb dL_law_537 (lv_at hl 1 rfl) ?_
    refine lv_icmp_eq (tgt := 544) hx hb dL_law_539 (by decide) (fun _ => ?_) (fun hne => absurd rfl hne)
    refine lv_iload hx hb dL_law_544 (lv_at hl 1 rfl) ?_
    refine lv_if_ne (tgt := 561) hx hb dL_law_546 (by decide) (fun _ => ?_) (fun he => absurd he (by decide))
    refine lv_goto (tgt := 1059) hx hb dL_law_561 (by decide) ?_
    refine W.widen (k := cells + 1) (n := slots + 6) (by omega) (by omega) ?_
    exact kk S1 Sm1 _ H3 locs3 ls hrl hLW3 hS3 (lv_sub hl [2, 3, 4, 5, 6] rfl)
set_option maxHeartbeats 4000000 in
set_option maxRecDepth 100000 in
theorem law_slurAt {p : Program} {l : Launch} {e : Env} {s : State} {m : MethodId} {below : List Frame} {meth : Method} {c : Code} {b L : Nat} {xs : Nat → Int32} {D : va_G} {cI cZ cJ : ClassId} {g gm : Nat → Nat} {qo : Nat} {AX AM : Nat → Prop} {Rel : XS → XS → Prop} {S Sm : XS} {f : Nat → Int64} {H : Heap} {locs : List Loc} {ls : Array Slot} {x4 : Int32} {cells slots : Nat} {Q : State → Prop} (C0 : lw_At p s m meth c b L xs) (hlt : l.stackTraces = false) (C : LC D cI cZ cJ g gm qo AX AM s) (hrel : PW Rel m_X5_slurAt m_X6_slurAt S Sm [.inl (xs (x4 + 1).toNatClampNeg), .inl (xs (x4 + 2).toNatClampNeg)]) (hi1 : vp_in (x4 + 1) L) (hi2 : vp_in (x4 + 2) L) (hi3 : vp_in (x4 + 3) L) (hi4 : vp_in (x4 + 4) L) (hi5 : vp_in (x4 + 5) L) (hLW : LW D cI cZ cJ g gm qo S Sm f H) (hS : va_S (fun q : Nat => s.heap.size ≤ q) s.heap H locs) (hl : lv_has ls 7 [(0, .ref b), (1, .ref (g 0)), (2, .ref (gm 0)), (3, .ref qo), (4, .int x4)]) (hf : cells + 1 ≤ 1091 ∧ slots + 6 ≤ 11829)
    (kk : ∀ (S1 Sm1 : XS) (f1 : Nat → Int64) (H1 : Heap) (locs1 : List Loc) (ls1 : Array Slot), Rel S1 Sm1 → LW D cI cZ cJ g gm qo S1 Sm1 f1 H1 → va_S (fun q : Nat => s.heap.size ≤ q) s.heap H1 locs1 → lv_has ls1 7 [(0, .ref b), (1, .ref (g 0)), (2, .ref (gm 0)), (3, .ref qo), (4, .int x4)] → W p l e room_1 s m #[Value.ref b] below meth c H1 locs1 (cells + 1) (slots + 6) Q (F0 m 1059 ls1 [])) :
    W p l e room_1 s m #[Value.ref b] below meth c H locs cells slots Q (F0 m 564 ls []) := by
  obtain ⟨hx, hb, hr, hml, hown, hts, hX, hbl, hlocks, hgv⟩ := id C0
  have hbA : ¬ (fun q : Nat => s.heap.size ≤ q) b := Nat.not_le.mpr hbl
  obtain ⟨cD, cM, cAX, cAM, ⟨cq1, cq2, cq3⟩, -, -, -, cK, cN, cst, cstm⟩ := id C
  have hfc : cells ≤ room_1.cells ∧ slots ≤ room_1.slots := ⟨by show cells ≤ 1091; omega, by show slots ≤ 11829; omega⟩
  obtain ⟨S1, Sm1, r, k, hsm, hth, hcase, hrl⟩ := hrel
  refine lv_aload_n hx hb dL_law_564 rfl (lv_at hl 1 rfl) ?_
  refine lv_aload_n hx hb dL_law_565 rfl (lv_at hl 0 rfl) ?_
  refine lv_iload hx hb dL_law_566 (lv_at hl 4 rfl) ?_
  refine lv_iconst (v := 1) hx hb dL_law_568 (by decide) ?_
  refine lv_iadd hx hb dL_law_569 ?_
  refine va_sld hx hb hX hbl hbA hS hi1 dL_law_570 ?_
  refine lv_aload_n hx hb dL_law_571 rfl (lv_at hl 0 rfl) ?_
  refine lv_iload hx hb dL_law_572 (lv_at hl 4 rfl) ?_
  refine lv_iconst (v := 2) hx hb dL_law_574 (by decide) ?_
  refine lv_iadd hx hb dL_law_575 ?_
  refine va_sld hx hb hX hbl hbA hS hi2 dL_law_576 ?_
  refine lv_aload_n hx hb dL_law_577 rfl (lv_at hl 3 rfl) ?_
  rcases hcase with ⟨rfl, hsx⟩ | ⟨rfl, hsx⟩
  · refine lc_wrap (A := AX) (n := 4) (av := [.ref (g 0), .int (xs (x4 + 1).toNatClampNeg), .int (xs (x4 + 2).toNatClampNeg), .ref qo]) (rest := []) (mc := 0) (ms := 0) hx hb hml hown hts cK cN cst cAX cq3 hl.1 (cWR_slurAt cD cq1 hsx) rfl (good_St kl_L_83 kt_L_slurAt kn_L kw_L_slurAt) rfl ⟨rfl, rfl⟩ (by decide +kernel) ⟨by decide, by decide⟩ ⟨by show cells + 0 ≤ 1091; omega, by show slots + 0 ≤ 11829; omega⟩ (Nat.le_of_ble_eq_true rfl) dL_law_578 hLW.1 hLW.2.2 hS (fun H1 locs1 hP1 hk1 hS1 => ?_)
    have hLW1 := hLW.w C hP1 hk1
    have hfcx : cells + 0 ≤ room_1.cells ∧ slots + 0 ≤ room_1.slots := ⟨by show cells + 0 ≤ 1091; omega, by show slots + 0 ≤ 11829; omega⟩
    refine lv_istore (lv' := [(5, .int 0), (0, .ref b), (1, .ref (g 0)), (2, .ref (gm 0)), (3, .ref qo), (4, .int x4)]) hx hb dL_law_581 hl (by decide) rfl (fun ls hl => ?_)
    refine lv_aload_n hx hb dL_law_583 rfl (lv_at hl 3 rfl) ?_
    refine lv_aload_n hx hb dL_law_584 rfl (lv_at hl 1 rfl) ?_
    refine lv_iload hx hb dL_law_585 (lv_at hl 5 rfl) ?_
    refine lv_iconst (v := 1) hx hb dL_law_587 (by decide) ?_
    refine lv_iadd hx hb dL_law_588 ?_
    refine va_sld hx hb hX hbl hbA hS1 hi1 dL_law_589 ?_
    refine lv_aload_n hx hb dL_law_590 rfl (lv_at hl 1 rfl) ?_
    refine lv_iload hx hb dL_law_591 (lv_at hl 5 rfl) ?_
    refine lv_iconst (v := 2) hx hb dL_law_593 (by decide) ?_
    refine lv_iadd hx hb dL_law_594 ?_
    refine va_sld hx hb hX hbl hbA hS1 hi2 dL_law_595 ?_
    refine lc_call (T := mT) (g := gm) (A := AM) (n := 2) (t := [.inl (xs (x4 + 1).toNatClampNeg), .inl (xs (x4 + 2).toNatClampNeg)]) (rest := []) hx hb hml hown hts cK cN cstm cAM hl.1 (c_X6_slurAt cM _ Sm _ rfl hsm) rfl (good_Vt kl_L_85 ki_X6_slurAt ks_X6_slurAt kn_X6 kc_X6_slurAt) rfl ⟨rfl, rfl⟩ rfl rfl (by decide +kernel) ⟨by decide, by decide⟩ hfcx (Nat.le_of_ble_eq_true rfl) dL_law_596 hLW1.2.1 hS1 (fun H2 locs2 hP2 hk2 hS2 => ?_)
    have hLW2 := hLW1.m C hP2 hk2
    refine lv_istore (lv' := [(6, .int r), (5, .int 0), (0, .ref b), (1, .ref (g 0)), (2, .ref (gm 0)), (3, .ref qo), (4, .int x4)]) hx hb dL_law_599 hl (by decide) rfl (fun ls hl => ?_)
    refine lv_aload_n hx hb dL_law_601 rfl (lv_at hl 4 rfl) ?_
    refine lc_call (T := mT) (g := gm) (A := AM) (n := 0) (t := []) (rest := []) hx hb hml hown hts cK cN cstm cAM hl.1 (c_X6_thrown cM _ Sm1 _ rfl hth) rfl (good_Vt kl_L_80 ki_X6_thrown ks_X6_thrown kn_X6 kc_X6_thrown) rfl ⟨rfl, rfl⟩ rfl rfl (by decide +kernel) ⟨by decide, by decide⟩ hfcx (Nat.le_of_ble_eq_true rfl) dL_law_602 hLW2.2.1 hS2 (fun H3 locs3 hP3 hk3 hS3 => ?_)
    have hLW3 := hLW2.m C hP3 hk3
    refine lv_iload hx hb dL_law_605 (lv_at hl 1 rfl) ?_
    refine lv_icmp_eq (tgt := 612) hx hb dL_law_607 (by decide) (fun _ => ?_) (fun hne => absurd rfl hne)
    refine lv_iload hx hb dL_law_612 (lv_at hl 1 rfl) ?_
    refine lv_if_ne (tgt := 629) hx hb dL_law_614 (by decide) (fun hne => absurd rfl hne) (fun _ => ?_)
    refine lv_aload_n hx hb dL_law_617 rfl (lv_at hl 5 rfl) ?_
    refine lv_iconst (v := 0) hx hb dL_law_618 (by decide) ?_
    have hPo : va_P D vwCl [(qo, .inl (cJ, 1, .inr (.inl (vp_updL f (0 : Int32).toNatClampNeg r.toInt64))))] H3 := fun k x hx => by
      have hz : k < 1 := (List.getElem?_eq_some_iff.mp hx).1
      rw [show k = 0 by omega] at hx
      cases hx
      exact hLW3.2.2
    refine va_lald (D := D) hx hb cK hPo 0 2 rfl rfl (vp_in_iff.mpr (by decide)) dL_law_619 ?_
    rw [pk_uLs]
    refine lv_iload hx hb dL_law_620 (lv_at hl 0 rfl) ?_
    refine lv_i2l hx hb dL_law_622 rfl ?_
    refine W.lcmp hx hb dL_law_623 ?_
    refine lv_if_eq (tgt := 629) hx hb dL_law_624 (by decide) (fun _ => ?_) (fun hne => absurd (cmp_same _) hne)
    refine lv_goto (tgt := 1059) hx hb dL_law_629 (by decide) ?_
    refine W.widen (k := cells + 1) (n := slots + 6) (by omega) (by omega) ?_
    exact kk S1 Sm1 _ H3 locs3 ls hrl hLW3 hS3 (lv_sub hl [2, 3, 4, 5, 6] rfl)
  · refine lc_wrap (A := AX) (n := 4) (av := [.ref (g 0), .int (xs (x4 + 1).toNatClampNeg), .int (xs (x4 + 2).toNatClampNeg), .ref qo]) (rest := []) (mc := 1) (ms := 6) hx hb hml hown hts cK cN cst cAX cq3 hl.1 (cWT_slurAt cD cq1 hlt hsx) rfl (good_St kl_L_83 kt_L_slurAt kn_L kw_L_slurAt) rfl ⟨rfl, rfl⟩ (by decide +kernel) ⟨by decide, by decide⟩ ⟨by show cells + 1 ≤ 1091; omega, by show slots + 6 ≤ 11829; omega⟩ (Nat.le_of_ble_eq_true rfl) dL_law_578 hLW.1 hLW.2.2 hS (fun H1 locs1 hP1 hk1 hS1 => ?_)
    have hLW1 := hLW.w C hP1 hk1
    have hfcx : cells + 1 ≤ room_1.cells ∧ slots + 6 ≤ room_1.slots := ⟨by show cells + 1 ≤ 1091; omega, by show slots + 6 ≤ 11829; omega⟩
    refine lv_istore (lv' := [(5, .int 1), (0, .ref b), (1, .ref (g 0)), (2, .ref (gm 0)), (3, .ref qo), (4, .int x4)]) hx hb dL_law_581 hl (by decide) rfl (fun ls hl => ?_)
    refine lv_aload_n hx hb dL_law_583 rfl (lv_at hl 3 rfl) ?_
    refine lv_aload_n hx hb dL_law_584 rfl (lv_at hl 1 rfl) ?_
    refine lv_iload hx hb dL_law_585 (lv_at hl 5 rfl) ?_
    refine lv_iconst (v := 1) hx hb dL_law_587 (by decide) ?_
    refine lv_iadd hx hb dL_law_588 ?_
    refine va_sld hx hb hX hbl hbA hS1 hi1 dL_law_589 ?_
    refine lv_aload_n hx hb dL_law_590 rfl (lv_at hl 1 rfl) ?_
    refine lv_iload hx hb dL_law_591 (lv_at hl 5 rfl) ?_
    refine lv_iconst (v := 2) hx hb dL_law_593 (by decide) ?_
    refine lv_iadd hx hb dL_law_594 ?_
    refine va_sld hx hb hX hbl hbA hS1 hi2 dL_law_595 ?_
    refine lc_call (T := mT) (g := gm) (A := AM) (n := 2) (t := [.inl (xs (x4 + 1).toNatClampNeg), .inl (xs (x4 + 2).toNatClampNeg)]) (rest := []) hx hb hml hown hts cK cN cstm cAM hl.1 (c_X6_slurAt cM _ Sm _ rfl hsm) rfl (good_Vt kl_L_85 ki_X6_slurAt ks_X6_slurAt kn_X6 kc_X6_slurAt) rfl ⟨rfl, rfl⟩ rfl rfl (by decide +kernel) ⟨by decide, by decide⟩ hfcx (Nat.le_of_ble_eq_true rfl) dL_law_596 hLW1.2.1 hS1 (fun H2 locs2 hP2 hk2 hS2 => ?_)
    have hLW2 := hLW1.m C hP2 hk2
    refine lv_istore (lv' := [(6, .int r), (5, .int 1), (0, .ref b), (1, .ref (g 0)), (2, .ref (gm 0)), (3, .ref qo), (4, .int x4)]) hx hb dL_law_599 hl (by decide) rfl (fun ls hl => ?_)
    refine lv_aload_n hx hb dL_law_601 rfl (lv_at hl 4 rfl) ?_
    refine lc_call (T := mT) (g := gm) (A := AM) (n := 0) (t := []) (rest := []) hx hb hml hown hts cK cN cstm cAM hl.1 (c_X6_thrown cM _ Sm1 _ rfl hth) rfl (good_Vt kl_L_80 ki_X6_thrown ks_X6_thrown kn_X6 kc_X6_thrown) rfl ⟨rfl, rfl⟩ rfl rfl (by decide +kernel) ⟨by decide, by decide⟩ hfcx (Nat.le_of_ble_eq_true rfl) dL_law_602 hLW2.2.1 hS2 (fun H3 locs3 hP3 hk3 hS3 => ?_)
    have hLW3 := hLW2.m C hP3 hk3
    refine lv_iload hx hb dL_law_605 (lv_at hl 1 rfl) ?_
    refine lv_icmp_eq (tgt := 612) hx hb dL_law_607 (by decide) (fun _ => ?_) (fun hne => absurd rfl hne)
    refine lv_iload hx hb dL_law_612 (lv_at hl 1 rfl) ?_
    refine lv_if_ne (tgt := 629) hx hb dL_law_614 (by decide) (fun _ => ?_) (fun he => absurd he (by decide))
    refine lv_goto (tgt := 1059) hx hb dL_law_629 (by decide) ?_
    refine W.widen (k := cells + 1) (n := slots + 6) (by omega) (by omega) ?_
    exact kk S1 Sm1 _ H3 locs3 ls hrl hLW3 hS3 (lv_sub hl [2, 3, 4, 5, 6] rfl)
set_option maxHeartbeats 4000000 in
set_option maxRecDepth 100000 in
theorem law_skyline {p : Program} {l : Launch} {e : Env} {s : State} {m : MethodId} {below : List Frame} {meth : Method} {c : Code} {b L : Nat} {xs : Nat → Int32} {D : va_G} {cI cZ cJ : ClassId} {g gm : Nat → Nat} {qo : Nat} {AX AM : Nat → Prop} {Rel : XS → XS → Prop} {S Sm : XS} {f : Nat → Int64} {H : Heap} {locs : List Loc} {ls : Array Slot} {x4 : Int32} {cells slots : Nat} {Q : State → Prop} (C0 : lw_At p s m meth c b L xs) (hlt : l.stackTraces = false) (C : LC D cI cZ cJ g gm qo AX AM s) (hrel : PW Rel m_X5_skyline m_X6_skyline S Sm [.inl (xs (x4 + 1).toNatClampNeg), .inl (xs (x4 + 2).toNatClampNeg)]) (hi1 : vp_in (x4 + 1) L) (hi2 : vp_in (x4 + 2) L) (hi3 : vp_in (x4 + 3) L) (hi4 : vp_in (x4 + 4) L) (hi5 : vp_in (x4 + 5) L) (hLW : LW D cI cZ cJ g gm qo S Sm f H) (hS : va_S (fun q : Nat => s.heap.size ≤ q) s.heap H locs) (hl : lv_has ls 7 [(0, .ref b), (1, .ref (g 0)), (2, .ref (gm 0)), (3, .ref qo), (4, .int x4)]) (hf : cells + 1 ≤ 1091 ∧ slots + 6 ≤ 11829)
    (kk : ∀ (S1 Sm1 : XS) (f1 : Nat → Int64) (H1 : Heap) (locs1 : List Loc) (ls1 : Array Slot), Rel S1 Sm1 → LW D cI cZ cJ g gm qo S1 Sm1 f1 H1 → va_S (fun q : Nat => s.heap.size ≤ q) s.heap H1 locs1 → lv_has ls1 7 [(0, .ref b), (1, .ref (g 0)), (2, .ref (gm 0)), (3, .ref qo), (4, .int x4)] → W p l e room_1 s m #[Value.ref b] below meth c H1 locs1 (cells + 1) (slots + 6) Q (F0 m 1059 ls1 [])) :
    W p l e room_1 s m #[Value.ref b] below meth c H locs cells slots Q (F0 m 632 ls []) := by
  obtain ⟨hx, hb, hr, hml, hown, hts, hX, hbl, hlocks, hgv⟩ := id C0
  have hbA : ¬ (fun q : Nat => s.heap.size ≤ q) b := Nat.not_le.mpr hbl
  obtain ⟨cD, cM, cAX, cAM, ⟨cq1, cq2, cq3⟩, -, -, -, cK, cN, cst, cstm⟩ := id C
  have hfc : cells ≤ room_1.cells ∧ slots ≤ room_1.slots := ⟨by show cells ≤ 1091; omega, by show slots ≤ 11829; omega⟩
  obtain ⟨S1, Sm1, r, k, hsm, hth, hcase, hrl⟩ := hrel
  refine lv_aload_n hx hb dL_law_632 rfl (lv_at hl 1 rfl) ?_
  refine lv_aload_n hx hb dL_law_633 rfl (lv_at hl 0 rfl) ?_
  refine lv_iload hx hb dL_law_634 (lv_at hl 4 rfl) ?_
  refine lv_iconst (v := 1) hx hb dL_law_636 (by decide) ?_
  refine lv_iadd hx hb dL_law_637 ?_
  refine va_sld hx hb hX hbl hbA hS hi1 dL_law_638 ?_
  refine lv_aload_n hx hb dL_law_639 rfl (lv_at hl 0 rfl) ?_
  refine lv_iload hx hb dL_law_640 (lv_at hl 4 rfl) ?_
  refine lv_iconst (v := 2) hx hb dL_law_642 (by decide) ?_
  refine lv_iadd hx hb dL_law_643 ?_
  refine va_sld hx hb hX hbl hbA hS hi2 dL_law_644 ?_
  refine lv_aload_n hx hb dL_law_645 rfl (lv_at hl 3 rfl) ?_
  rcases hcase with ⟨rfl, hsx⟩ | ⟨rfl, hsx⟩
  · refine lc_wrap (A := AX) (n := 4) (av := [.ref (g 0), .int (xs (x4 + 1).toNatClampNeg), .int (xs (x4 + 2).toNatClampNeg), .ref qo]) (rest := []) (mc := 0) (ms := 0) hx hb hml hown hts cK cN cst cAX cq3 hl.1 (cWR_skyline cD cq1 hsx) rfl (good_St kl_L_86 kt_L_skyline kn_L kw_L_skyline) rfl ⟨rfl, rfl⟩ (by decide +kernel) ⟨by decide, by decide⟩ ⟨by show cells + 0 ≤ 1091; omega, by show slots + 0 ≤ 11829; omega⟩ (Nat.le_of_ble_eq_true rfl) dL_law_646 hLW.1 hLW.2.2 hS (fun H1 locs1 hP1 hk1 hS1 => ?_)
    have hLW1 := hLW.w C hP1 hk1
    have hfcx : cells + 0 ≤ room_1.cells ∧ slots + 0 ≤ room_1.slots := ⟨by show cells + 0 ≤ 1091; omega, by show slots + 0 ≤ 11829; omega⟩
    refine lv_istore (lv' := [(5, .int 0), (0, .ref b), (1, .ref (g 0)), (2, .ref (gm 0)), (3, .ref qo), (4, .int x4)]) hx hb dL_law_649 hl (by decide) rfl (fun ls hl => ?_)
    refine lv_aload_n hx hb dL_law_651 rfl (lv_at hl 3 rfl) ?_
    refine lv_aload_n hx hb dL_law_652 rfl (lv_at hl 1 rfl) ?_
    refine lv_iload hx hb dL_law_653 (lv_at hl 5 rfl) ?_
    refine lv_iconst (v := 1) hx hb dL_law_655 (by decide) ?_
    refine lv_iadd hx hb dL_law_656 ?_
    refine va_sld hx hb hX hbl hbA hS1 hi1 dL_law_657 ?_
    refine lv_aload_n hx hb dL_law_658 rfl (lv_at hl 1 rfl) ?_
    refine lv_iload hx hb dL_law_659 (lv_at hl 5 rfl) ?_
    refine lv_iconst (v := 2) hx hb dL_law_661 (by decide) ?_
    refine lv_iadd hx hb dL_law_662 ?_
    refine va_sld hx hb hX hbl hbA hS1 hi2 dL_law_663 ?_
    refine lc_call (T := mT) (g := gm) (A := AM) (n := 2) (t := [.inl (xs (x4 + 1).toNatClampNeg), .inl (xs (x4 + 2).toNatClampNeg)]) (rest := []) hx hb hml hown hts cK cN cstm cAM hl.1 (c_X6_skyline cM _ Sm _ rfl hsm) rfl (good_Vt kl_L_88 ki_X6_skyline ks_X6_skyline kn_X6 kc_X6_skyline) rfl ⟨rfl, rfl⟩ rfl rfl (by decide +kernel) ⟨by decide, by decide⟩ hfcx (Nat.le_of_ble_eq_true rfl) dL_law_664 hLW1.2.1 hS1 (fun H2 locs2 hP2 hk2 hS2 => ?_)
    have hLW2 := hLW1.m C hP2 hk2
    refine lv_istore (lv' := [(6, .int r), (5, .int 0), (0, .ref b), (1, .ref (g 0)), (2, .ref (gm 0)), (3, .ref qo), (4, .int x4)]) hx hb dL_law_667 hl (by decide) rfl (fun ls hl => ?_)
    refine lv_aload_n hx hb dL_law_669 rfl (lv_at hl 4 rfl) ?_
    refine lc_call (T := mT) (g := gm) (A := AM) (n := 0) (t := []) (rest := []) hx hb hml hown hts cK cN cstm cAM hl.1 (c_X6_thrown cM _ Sm1 _ rfl hth) rfl (good_Vt kl_L_80 ki_X6_thrown ks_X6_thrown kn_X6 kc_X6_thrown) rfl ⟨rfl, rfl⟩ rfl rfl (by decide +kernel) ⟨by decide, by decide⟩ hfcx (Nat.le_of_ble_eq_true rfl) dL_law_670 hLW2.2.1 hS2 (fun H3 locs3 hP3 hk3 hS3 => ?_)
    have hLW3 := hLW2.m C hP3 hk3
    refine lv_iload hx hb dL_law_673 (lv_at hl 1 rfl) ?_
    refine lv_icmp_eq (tgt := 680) hx hb dL_law_675 (by decide) (fun _ => ?_) (fun hne => absurd rfl hne)
    refine lv_iload hx hb dL_law_680 (lv_at hl 1 rfl) ?_
    refine lv_if_ne (tgt := 697) hx hb dL_law_682 (by decide) (fun hne => absurd rfl hne) (fun _ => ?_)
    refine lv_aload_n hx hb dL_law_685 rfl (lv_at hl 5 rfl) ?_
    refine lv_iconst (v := 0) hx hb dL_law_686 (by decide) ?_
    have hPo : va_P D vwCl [(qo, .inl (cJ, 1, .inr (.inl (vp_updL f (0 : Int32).toNatClampNeg r.toInt64))))] H3 := fun k x hx => by
      have hz : k < 1 := (List.getElem?_eq_some_iff.mp hx).1
      rw [show k = 0 by omega] at hx
      cases hx
      exact hLW3.2.2
    refine va_lald (D := D) hx hb cK hPo 0 2 rfl rfl (vp_in_iff.mpr (by decide)) dL_law_687 ?_
    rw [pk_uLs]
    refine lv_iload hx hb dL_law_688 (lv_at hl 0 rfl) ?_
    refine lv_i2l hx hb dL_law_690 rfl ?_
    refine W.lcmp hx hb dL_law_691 ?_
    refine lv_if_eq (tgt := 697) hx hb dL_law_692 (by decide) (fun _ => ?_) (fun hne => absurd (cmp_same _) hne)
    refine lv_goto (tgt := 1059) hx hb dL_law_697 (by decide) ?_
    refine W.widen (k := cells + 1) (n := slots + 6) (by omega) (by omega) ?_
    exact kk S1 Sm1 _ H3 locs3 ls hrl hLW3 hS3 (lv_sub hl [2, 3, 4, 5, 6] rfl)
  · refine lc_wrap (A := AX) (n := 4) (av := [.ref (g 0), .int (xs (x4 + 1).toNatClampNeg), .int (xs (x4 + 2).toNatClampNeg), .ref qo]) (rest := []) (mc := 1) (ms := 6) hx hb hml hown hts cK cN cst cAX cq3 hl.1 (cWT_skyline cD cq1 hlt hsx) rfl (good_St kl_L_86 kt_L_skyline kn_L kw_L_skyline) rfl ⟨rfl, rfl⟩ (by decide +kernel) ⟨by decide, by decide⟩ ⟨by show cells + 1 ≤ 1091; omega, by show slots + 6 ≤ 11829; omega⟩ (Nat.le_of_ble_eq_true rfl) dL_law_646 hLW.1 hLW.2.2 hS (fun H1 locs1 hP1 hk1 hS1 => ?_)
    have hLW1 := hLW.w C hP1 hk1
    have hfcx : cells + 1 ≤ room_1.cells ∧ slots + 6 ≤ room_1.slots := ⟨by show cells + 1 ≤ 1091; omega, by show slots + 6 ≤ 11829; omega⟩
    refine lv_istore (lv' := [(5, .int 1), (0, .ref b), (1, .ref (g 0)), (2, .ref (gm 0)), (3, .ref qo), (4, .int x4)]) hx hb dL_law_649 hl (by decide) rfl (fun ls hl => ?_)
    refine lv_aload_n hx hb dL_law_651 rfl (lv_at hl 3 rfl) ?_
    refine lv_aload_n hx hb dL_law_652 rfl (lv_at hl 1 rfl) ?_
    refine lv_iload hx hb dL_law_653 (lv_at hl 5 rfl) ?_
    refine lv_iconst (v := 1) hx hb dL_law_655 (by decide) ?_
    refine lv_iadd hx hb dL_law_656 ?_
    refine va_sld hx hb hX hbl hbA hS1 hi1 dL_law_657 ?_
    refine lv_aload_n hx hb dL_law_658 rfl (lv_at hl 1 rfl) ?_
    refine lv_iload hx hb dL_law_659 (lv_at hl 5 rfl) ?_
    refine lv_iconst (v := 2) hx hb dL_law_661 (by decide) ?_
    refine lv_iadd hx hb dL_law_662 ?_
    refine va_sld hx hb hX hbl hbA hS1 hi2 dL_law_663 ?_
    refine lc_call (T := mT) (g := gm) (A := AM) (n := 2) (t := [.inl (xs (x4 + 1).toNatClampNeg), .inl (xs (x4 + 2).toNatClampNeg)]) (rest := []) hx hb hml hown hts cK cN cstm cAM hl.1 (c_X6_skyline cM _ Sm _ rfl hsm) rfl (good_Vt kl_L_88 ki_X6_skyline ks_X6_skyline kn_X6 kc_X6_skyline) rfl ⟨rfl, rfl⟩ rfl rfl (by decide +kernel) ⟨by decide, by decide⟩ hfcx (Nat.le_of_ble_eq_true rfl) dL_law_664 hLW1.2.1 hS1 (fun H2 locs2 hP2 hk2 hS2 => ?_)
    have hLW2 := hLW1.m C hP2 hk2
    refine lv_istore (lv' := [(6, .int r), (5, .int 1), (0, .ref b), (1, .ref (g 0)), (2, .ref (gm 0)), (3, .ref qo), (4, .int x4)]) hx hb dL_law_667 hl (by decide) rfl (fun ls hl => ?_)
    refine lv_aload_n hx hb dL_law_669 rfl (lv_at hl 4 rfl) ?_
    refine lc_call (T := mT) (g := gm) (A := AM) (n := 0) (t := []) (rest := []) hx hb hml hown hts cK cN cstm cAM hl.1 (c_X6_thrown cM _ Sm1 _ rfl hth) rfl (good_Vt kl_L_80 ki_X6_thrown ks_X6_thrown kn_X6 kc_X6_thrown) rfl ⟨rfl, rfl⟩ rfl rfl (by decide +kernel) ⟨by decide, by decide⟩ hfcx (Nat.le_of_ble_eq_true rfl) dL_law_670 hLW2.2.1 hS2 (fun H3 locs3 hP3 hk3 hS3 => ?_)
    have hLW3 := hLW2.m C hP3 hk3
    refine lv_iload hx hb dL_law_673 (lv_at hl 1 rfl) ?_
    refine lv_icmp_eq (tgt := 680) hx hb dL_law_675 (by decide) (fun _ => ?_) (fun hne => absurd rfl hne)
    refine lv_iload hx hb dL_law_680 (lv_at hl 1 rfl) ?_
    refine lv_if_ne (tgt := 697) hx hb dL_law_682 (by decide) (fun _ => ?_) (fun he => absurd he (by decide))
    refine lv_goto (tgt := 1059) hx hb dL_law_697 (by decide) ?_
    refine W.widen (k := cells + 1) (n := slots + 6) (by omega) (by omega) ?_
    exact kk S1 Sm1 _ H3 locs3 ls hrl hLW3 hS3 (lv_sub hl [2, 3, 4, 5, 6] rfl)
set_option maxHeartbeats 4000000 in
set_option maxRecDepth 100000 in
theorem law_row {p : Program} {l : Launch} {e : Env} {s : State} {m : MethodId} {below : List Frame} {meth : Method} {c : Code} {b L : Nat} {xs : Nat → Int32} {D : va_G} {cI cZ cJ : ClassId} {g gm : Nat → Nat} {qo : Nat} {AX AM : Nat → Prop} {Rel : XS → XS → Prop} {S Sm : XS} {f : Nat → Int64} {H : Heap} {locs : List Loc} {ls : Array Slot} {x4 : Int32} {cells slots : Nat} {Q : State → Prop} (C0 : lw_At p s m meth c b L xs) (hlt : l.stackTraces = false) (C : LC D cI cZ cJ g gm qo AX AM s) (hrel : PW Rel m_X5_row m_X6_row S Sm [.inl (xs (x4 + 1).toNatClampNeg), .inl (xs (x4 + 2).toNatClampNeg)]) (hi1 : vp_in (x4 + 1) L) (hi2 : vp_in (x4 + 2) L) (hi3 : vp_in (x4 + 3) L) (hi4 : vp_in (x4 + 4) L) (hi5 : vp_in (x4 + 5) L) (hLW : LW D cI cZ cJ g gm qo S Sm f H) (hS : va_S (fun q : Nat => s.heap.size ≤ q) s.heap H locs) (hl : lv_has ls 7 [(0, .ref b), (1, .ref (g 0)), (2, .ref (gm 0)), (3, .ref qo), (4, .int x4)]) (hf : cells + 1 ≤ 1091 ∧ slots + 6 ≤ 11829)
    (kk : ∀ (S1 Sm1 : XS) (f1 : Nat → Int64) (H1 : Heap) (locs1 : List Loc) (ls1 : Array Slot), Rel S1 Sm1 → LW D cI cZ cJ g gm qo S1 Sm1 f1 H1 → va_S (fun q : Nat => s.heap.size ≤ q) s.heap H1 locs1 → lv_has ls1 7 [(0, .ref b), (1, .ref (g 0)), (2, .ref (gm 0)), (3, .ref qo), (4, .int x4)] → W p l e room_1 s m #[Value.ref b] below meth c H1 locs1 (cells + 1) (slots + 6) Q (F0 m 1059 ls1 [])) :
    W p l e room_1 s m #[Value.ref b] below meth c H locs cells slots Q (F0 m 700 ls []) := by
  obtain ⟨hx, hb, hr, hml, hown, hts, hX, hbl, hlocks, hgv⟩ := id C0
  have hbA : ¬ (fun q : Nat => s.heap.size ≤ q) b := Nat.not_le.mpr hbl
  obtain ⟨cD, cM, cAX, cAM, ⟨cq1, cq2, cq3⟩, -, -, -, cK, cN, cst, cstm⟩ := id C
  have hfc : cells ≤ room_1.cells ∧ slots ≤ room_1.slots := ⟨by show cells ≤ 1091; omega, by show slots ≤ 11829; omega⟩
  obtain ⟨S1, Sm1, r, k, hsm, hth, hcase, hrl⟩ := hrel
  refine lv_aload_n hx hb dL_law_700 rfl (lv_at hl 1 rfl) ?_
  refine lv_aload_n hx hb dL_law_701 rfl (lv_at hl 0 rfl) ?_
  refine lv_iload hx hb dL_law_702 (lv_at hl 4 rfl) ?_
  refine lv_iconst (v := 1) hx hb dL_law_704 (by decide) ?_
  refine lv_iadd hx hb dL_law_705 ?_
  refine va_sld hx hb hX hbl hbA hS hi1 dL_law_706 ?_
  refine lv_aload_n hx hb dL_law_707 rfl (lv_at hl 0 rfl) ?_
  refine lv_iload hx hb dL_law_708 (lv_at hl 4 rfl) ?_
  refine lv_iconst (v := 2) hx hb dL_law_710 (by decide) ?_
  refine lv_iadd hx hb dL_law_711 ?_
  refine va_sld hx hb hX hbl hbA hS hi2 dL_law_712 ?_
  refine lv_aload_n hx hb dL_law_713 rfl (lv_at hl 3 rfl) ?_
  rcases hcase with ⟨rfl, hsx⟩ | ⟨rfl, hsx⟩
  · refine lc_wrap (A := AX) (n := 4) (av := [.ref (g 0), .int (xs (x4 + 1).toNatClampNeg), .int (xs (x4 + 2).toNatClampNeg), .ref qo]) (rest := []) (mc := 0) (ms := 0) hx hb hml hown hts cK cN cst cAX cq3 hl.1 (cWR_row cD cq1 hsx) rfl (good_St kl_L_89 kt_L_row kn_L kw_L_row) rfl ⟨rfl, rfl⟩ (by decide +kernel) ⟨by decide, by decide⟩ ⟨by show cells + 0 ≤ 1091; omega, by show slots + 0 ≤ 11829; omega⟩ (Nat.le_of_ble_eq_true rfl) dL_law_714 hLW.1 hLW.2.2 hS (fun H1 locs1 hP1 hk1 hS1 => ?_)
    have hLW1 := hLW.w C hP1 hk1
    have hfcx : cells + 0 ≤ room_1.cells ∧ slots + 0 ≤ room_1.slots := ⟨by show cells + 0 ≤ 1091; omega, by show slots + 0 ≤ 11829; omega⟩
    refine lv_istore (lv' := [(5, .int 0), (0, .ref b), (1, .ref (g 0)), (2, .ref (gm 0)), (3, .ref qo), (4, .int x4)]) hx hb dL_law_717 hl (by decide) rfl (fun ls hl => ?_)
    refine lv_aload_n hx hb dL_law_719 rfl (lv_at hl 3 rfl) ?_
    refine lv_aload_n hx hb dL_law_720 rfl (lv_at hl 1 rfl) ?_
    refine lv_iload hx hb dL_law_721 (lv_at hl 5 rfl) ?_
    refine lv_iconst (v := 1) hx hb dL_law_723 (by decide) ?_
    refine lv_iadd hx hb dL_law_724 ?_
    refine va_sld hx hb hX hbl hbA hS1 hi1 dL_law_725 ?_
    refine lv_aload_n hx hb dL_law_726 rfl (lv_at hl 1 rfl) ?_
    refine lv_iload hx hb dL_law_727 (lv_at hl 5 rfl) ?_
    refine lv_iconst (v := 2) hx hb dL_law_729 (by decide) ?_
    refine lv_iadd hx hb dL_law_730 ?_
    refine va_sld hx hb hX hbl hbA hS1 hi2 dL_law_731 ?_
    refine lc_call (T := mT) (g := gm) (A := AM) (n := 2) (t := [.inl (xs (x4 + 1).toNatClampNeg), .inl (xs (x4 + 2).toNatClampNeg)]) (rest := []) hx hb hml hown hts cK cN cstm cAM hl.1 (c_X6_row cM _ Sm _ rfl hsm) rfl (good_Vt kl_L_91 ki_X6_row ks_X6_row kn_X6 kc_X6_row) rfl ⟨rfl, rfl⟩ rfl rfl (by decide +kernel) ⟨by decide, by decide⟩ hfcx (Nat.le_of_ble_eq_true rfl) dL_law_732 hLW1.2.1 hS1 (fun H2 locs2 hP2 hk2 hS2 => ?_)
    have hLW2 := hLW1.m C hP2 hk2
    refine lv_istore (lv' := [(6, .int r), (5, .int 0), (0, .ref b), (1, .ref (g 0)), (2, .ref (gm 0)), (3, .ref qo), (4, .int x4)]) hx hb dL_law_735 hl (by decide) rfl (fun ls hl => ?_)
    refine lv_aload_n hx hb dL_law_737 rfl (lv_at hl 4 rfl) ?_
    refine lc_call (T := mT) (g := gm) (A := AM) (n := 0) (t := []) (rest := []) hx hb hml hown hts cK cN cstm cAM hl.1 (c_X6_thrown cM _ Sm1 _ rfl hth) rfl (good_Vt kl_L_80 ki_X6_thrown ks_X6_thrown kn_X6 kc_X6_thrown) rfl ⟨rfl, rfl⟩ rfl rfl (by decide +kernel) ⟨by decide, by decide⟩ hfcx (Nat.le_of_ble_eq_true rfl) dL_law_738 hLW2.2.1 hS2 (fun H3 locs3 hP3 hk3 hS3 => ?_)
    have hLW3 := hLW2.m C hP3 hk3
    refine lv_iload hx hb dL_law_741 (lv_at hl 1 rfl) ?_
    refine lv_icmp_eq (tgt := 748) hx hb dL_law_743 (by decide) (fun _ => ?_) (fun hne => absurd rfl hne)
    refine lv_iload hx hb dL_law_748 (lv_at hl 1 rfl) ?_
    refine lv_if_ne (tgt := 765) hx hb dL_law_750 (by decide) (fun hne => absurd rfl hne) (fun _ => ?_)
    refine lv_aload_n hx hb dL_law_753 rfl (lv_at hl 5 rfl) ?_
    refine lv_iconst (v := 0) hx hb dL_law_754 (by decide) ?_
    have hPo : va_P D vwCl [(qo, .inl (cJ, 1, .inr (.inl (vp_updL f (0 : Int32).toNatClampNeg r.toInt64))))] H3 := fun k x hx => by
      have hz : k < 1 := (List.getElem?_eq_some_iff.mp hx).1
      rw [show k = 0 by omega] at hx
      cases hx
      exact hLW3.2.2
    refine va_lald (D := D) hx hb cK hPo 0 2 rfl rfl (vp_in_iff.mpr (by decide)) dL_law_755 ?_
    rw [pk_uLs]
    refine lv_iload hx hb dL_law_756 (lv_at hl 0 rfl) ?_
    refine lv_i2l hx hb dL_law_758 rfl ?_
    refine W.lcmp hx hb dL_law_759 ?_
    refine lv_if_eq (tgt := 765) hx hb dL_law_760 (by decide) (fun _ => ?_) (fun hne => absurd (cmp_same _) hne)
    refine lv_goto (tgt := 1059) hx hb dL_law_765 (by decide) ?_
    refine W.widen (k := cells + 1) (n := slots + 6) (by omega) (by omega) ?_
    exact kk S1 Sm1 _ H3 locs3 ls hrl hLW3 hS3 (lv_sub hl [2, 3, 4, 5, 6] rfl)
  · refine lc_wrap (A := AX) (n := 4) (av := [.ref (g 0), .int (xs (x4 + 1).toNatClampNeg), .int (xs (x4 + 2).toNatClampNeg), .ref qo]) (rest := []) (mc := 1) (ms := 6) hx hb hml hown hts cK cN cst cAX cq3 hl.1 (cWT_row cD cq1 hlt hsx) rfl (good_St kl_L_89 kt_L_row kn_L kw_L_row) rfl ⟨rfl, rfl⟩ (by decide +kernel) ⟨by decide, by decide⟩ ⟨by show cells + 1 ≤ 1091; omega, by show slots + 6 ≤ 11829; omega⟩ (Nat.le_of_ble_eq_true rfl) dL_law_714 hLW.1 hLW.2.2 hS (fun H1 locs1 hP1 hk1 hS1 => ?_)
    have hLW1 := hLW.w C hP1 hk1
    have hfcx : cells + 1 ≤ room_1.cells ∧ slots + 6 ≤ room_1.slots := ⟨by show cells + 1 ≤ 1091; omega, by show slots + 6 ≤ 11829; omega⟩
    refine lv_istore (lv' := [(5, .int 1), (0, .ref b), (1, .ref (g 0)), (2, .ref (gm 0)), (3, .ref qo), (4, .int x4)]) hx hb dL_law_717 hl (by decide) rfl (fun ls hl => ?_)
    refine lv_aload_n hx hb dL_law_719 rfl (lv_at hl 3 rfl) ?_
    refine lv_aload_n hx hb dL_law_720 rfl (lv_at hl 1 rfl) ?_
    refine lv_iload hx hb dL_law_721 (lv_at hl 5 rfl) ?_
    refine lv_iconst (v := 1) hx hb dL_law_723 (by decide) ?_
    refine lv_iadd hx hb dL_law_724 ?_
    refine va_sld hx hb hX hbl hbA hS1 hi1 dL_law_725 ?_
    refine lv_aload_n hx hb dL_law_726 rfl (lv_at hl 1 rfl) ?_
    refine lv_iload hx hb dL_law_727 (lv_at hl 5 rfl) ?_
    refine lv_iconst (v := 2) hx hb dL_law_729 (by decide) ?_
    refine lv_iadd hx hb dL_law_730 ?_
    refine va_sld hx hb hX hbl hbA hS1 hi2 dL_law_731 ?_
    refine lc_call (T := mT) (g := gm) (A := AM) (n := 2) (t := [.inl (xs (x4 + 1).toNatClampNeg), .inl (xs (x4 + 2).toNatClampNeg)]) (rest := []) hx hb hml hown hts cK cN cstm cAM hl.1 (c_X6_row cM _ Sm _ rfl hsm) rfl (good_Vt kl_L_91 ki_X6_row ks_X6_row kn_X6 kc_X6_row) rfl ⟨rfl, rfl⟩ rfl rfl (by decide +kernel) ⟨by decide, by decide⟩ hfcx (Nat.le_of_ble_eq_true rfl) dL_law_732 hLW1.2.1 hS1 (fun H2 locs2 hP2 hk2 hS2 => ?_)
    have hLW2 := hLW1.m C hP2 hk2
    refine lv_istore (lv' := [(6, .int r), (5, .int 1), (0, .ref b), (1, .ref (g 0)), (2, .ref (gm 0)), (3, .ref qo), (4, .int x4)]) hx hb dL_law_735 hl (by decide) rfl (fun ls hl => ?_)
    refine lv_aload_n hx hb dL_law_737 rfl (lv_at hl 4 rfl) ?_
    refine lc_call (T := mT) (g := gm) (A := AM) (n := 0) (t := []) (rest := []) hx hb hml hown hts cK cN cstm cAM hl.1 (c_X6_thrown cM _ Sm1 _ rfl hth) rfl (good_Vt kl_L_80 ki_X6_thrown ks_X6_thrown kn_X6 kc_X6_thrown) rfl ⟨rfl, rfl⟩ rfl rfl (by decide +kernel) ⟨by decide, by decide⟩ hfcx (Nat.le_of_ble_eq_true rfl) dL_law_738 hLW2.2.1 hS2 (fun H3 locs3 hP3 hk3 hS3 => ?_)
    have hLW3 := hLW2.m C hP3 hk3
    refine lv_iload hx hb dL_law_741 (lv_at hl 1 rfl) ?_
    refine lv_icmp_eq (tgt := 748) hx hb dL_law_743 (by decide) (fun _ => ?_) (fun hne => absurd rfl hne)
    refine lv_iload hx hb dL_law_748 (lv_at hl 1 rfl) ?_
    refine lv_if_ne (tgt := 765) hx hb dL_law_750 (by decide) (fun _ => ?_) (fun he => absurd he (by decide))
    refine lv_goto (tgt := 1059) hx hb dL_law_765 (by decide) ?_
    refine W.widen (k := cells + 1) (n := slots + 6) (by omega) (by omega) ?_
    exact kk S1 Sm1 _ H3 locs3 ls hrl hLW3 hS3 (lv_sub hl [2, 3, 4, 5, 6] rfl)
set_option maxHeartbeats 4000000 in
set_option maxRecDepth 100000 in
theorem law_order {p : Program} {l : Launch} {e : Env} {s : State} {m : MethodId} {below : List Frame} {meth : Method} {c : Code} {b L : Nat} {xs : Nat → Int32} {D : va_G} {cI cZ cJ : ClassId} {g gm : Nat → Nat} {qo : Nat} {AX AM : Nat → Prop} {Rel : XS → XS → Prop} {S Sm : XS} {f : Nat → Int64} {H : Heap} {locs : List Loc} {ls : Array Slot} {x4 : Int32} {cells slots : Nat} {Q : State → Prop} (C0 : lw_At p s m meth c b L xs) (hlt : l.stackTraces = false) (C : LC D cI cZ cJ g gm qo AX AM s) (hrel : PW Rel m_X5_order m_X6_order S Sm [.inl (xs (x4 + 1).toNatClampNeg), .inl (xs (x4 + 2).toNatClampNeg), .inl (xs (x4 + 3).toNatClampNeg)]) (hi1 : vp_in (x4 + 1) L) (hi2 : vp_in (x4 + 2) L) (hi3 : vp_in (x4 + 3) L) (hi4 : vp_in (x4 + 4) L) (hi5 : vp_in (x4 + 5) L) (hLW : LW D cI cZ cJ g gm qo S Sm f H) (hS : va_S (fun q : Nat => s.heap.size ≤ q) s.heap H locs) (hl : lv_has ls 7 [(0, .ref b), (1, .ref (g 0)), (2, .ref (gm 0)), (3, .ref qo), (4, .int x4)]) (hf : cells + 1 ≤ 1091 ∧ slots + 6 ≤ 11829)
    (kk : ∀ (S1 Sm1 : XS) (f1 : Nat → Int64) (H1 : Heap) (locs1 : List Loc) (ls1 : Array Slot), Rel S1 Sm1 → LW D cI cZ cJ g gm qo S1 Sm1 f1 H1 → va_S (fun q : Nat => s.heap.size ≤ q) s.heap H1 locs1 → lv_has ls1 7 [(0, .ref b), (1, .ref (g 0)), (2, .ref (gm 0)), (3, .ref qo), (4, .int x4)] → W p l e room_1 s m #[Value.ref b] below meth c H1 locs1 (cells + 1) (slots + 6) Q (F0 m 1059 ls1 [])) :
    W p l e room_1 s m #[Value.ref b] below meth c H locs cells slots Q (F0 m 768 ls []) := by
  obtain ⟨hx, hb, hr, hml, hown, hts, hX, hbl, hlocks, hgv⟩ := id C0
  have hbA : ¬ (fun q : Nat => s.heap.size ≤ q) b := Nat.not_le.mpr hbl
  obtain ⟨cD, cM, cAX, cAM, ⟨cq1, cq2, cq3⟩, -, -, -, cK, cN, cst, cstm⟩ := id C
  have hfc : cells ≤ room_1.cells ∧ slots ≤ room_1.slots := ⟨by show cells ≤ 1091; omega, by show slots ≤ 11829; omega⟩
  obtain ⟨S1, Sm1, r, k, hsm, hth, hcase, hrl⟩ := hrel
  refine lv_aload_n hx hb dL_law_768 rfl (lv_at hl 1 rfl) ?_
  refine lv_aload_n hx hb dL_law_769 rfl (lv_at hl 0 rfl) ?_
  refine lv_iload hx hb dL_law_770 (lv_at hl 4 rfl) ?_
  refine lv_iconst (v := 1) hx hb dL_law_772 (by decide) ?_
  refine lv_iadd hx hb dL_law_773 ?_
  refine va_sld hx hb hX hbl hbA hS hi1 dL_law_774 ?_
  refine lv_aload_n hx hb dL_law_775 rfl (lv_at hl 0 rfl) ?_
  refine lv_iload hx hb dL_law_776 (lv_at hl 4 rfl) ?_
  refine lv_iconst (v := 2) hx hb dL_law_778 (by decide) ?_
  refine lv_iadd hx hb dL_law_779 ?_
  refine va_sld hx hb hX hbl hbA hS hi2 dL_law_780 ?_
  refine lv_aload_n hx hb dL_law_781 rfl (lv_at hl 0 rfl) ?_
  refine lv_iload hx hb dL_law_782 (lv_at hl 4 rfl) ?_
  refine lv_iconst (v := 3) hx hb dL_law_784 (by decide) ?_
  refine lv_iadd hx hb dL_law_785 ?_
  refine va_sld hx hb hX hbl hbA hS hi3 dL_law_786 ?_
  refine lv_aload_n hx hb dL_law_787 rfl (lv_at hl 3 rfl) ?_
  rcases hcase with ⟨rfl, hsx⟩ | ⟨rfl, hsx⟩
  · refine lc_wrap (A := AX) (n := 5) (av := [.ref (g 0), .int (xs (x4 + 1).toNatClampNeg), .int (xs (x4 + 2).toNatClampNeg), .int (xs (x4 + 3).toNatClampNeg), .ref qo]) (rest := []) (mc := 0) (ms := 0) hx hb hml hown hts cK cN cst cAX cq3 hl.1 (cWR_order cD cq1 hsx) rfl (good_St kl_L_92 kt_L_order kn_L kw_L_order) rfl ⟨rfl, rfl⟩ (by decide +kernel) ⟨by decide, by decide⟩ ⟨by show cells + 0 ≤ 1091; omega, by show slots + 0 ≤ 11829; omega⟩ (Nat.le_of_ble_eq_true rfl) dL_law_788 hLW.1 hLW.2.2 hS (fun H1 locs1 hP1 hk1 hS1 => ?_)
    have hLW1 := hLW.w C hP1 hk1
    have hfcx : cells + 0 ≤ room_1.cells ∧ slots + 0 ≤ room_1.slots := ⟨by show cells + 0 ≤ 1091; omega, by show slots + 0 ≤ 11829; omega⟩
    refine lv_istore (lv' := [(5, .int 0), (0, .ref b), (1, .ref (g 0)), (2, .ref (gm 0)), (3, .ref qo), (4, .int x4)]) hx hb dL_law_791 hl (by decide) rfl (fun ls hl => ?_)
    refine lv_aload_n hx hb dL_law_793 rfl (lv_at hl 3 rfl) ?_
    refine lv_aload_n hx hb dL_law_794 rfl (lv_at hl 1 rfl) ?_
    refine lv_iload hx hb dL_law_795 (lv_at hl 5 rfl) ?_
    refine lv_iconst (v := 1) hx hb dL_law_797 (by decide) ?_
    refine lv_iadd hx hb dL_law_798 ?_
    refine va_sld hx hb hX hbl hbA hS1 hi1 dL_law_799 ?_
    refine lv_aload_n hx hb dL_law_800 rfl (lv_at hl 1 rfl) ?_
    refine lv_iload hx hb dL_law_801 (lv_at hl 5 rfl) ?_
    refine lv_iconst (v := 2) hx hb dL_law_803 (by decide) ?_
    refine lv_iadd hx hb dL_law_804 ?_
    refine va_sld hx hb hX hbl hbA hS1 hi2 dL_law_805 ?_
    refine lv_aload_n hx hb dL_law_806 rfl (lv_at hl 1 rfl) ?_
    refine lv_iload hx hb dL_law_807 (lv_at hl 5 rfl) ?_
    refine lv_iconst (v := 3) hx hb dL_law_809 (by decide) ?_
    refine lv_iadd hx hb dL_law_810 ?_
    refine va_sld hx hb hX hbl hbA hS1 hi3 dL_law_811 ?_
    refine lc_call (T := mT) (g := gm) (A := AM) (n := 3) (t := [.inl (xs (x4 + 1).toNatClampNeg), .inl (xs (x4 + 2).toNatClampNeg), .inl (xs (x4 + 3).toNatClampNeg)]) (rest := []) hx hb hml hown hts cK cN cstm cAM hl.1 (c_X6_order cM _ Sm _ rfl hsm) rfl (good_Vt kl_L_95 ki_X6_order ks_X6_order kn_X6 kc_X6_order) rfl ⟨rfl, rfl⟩ rfl rfl (by decide +kernel) ⟨by decide, by decide⟩ hfcx (Nat.le_of_ble_eq_true rfl) dL_law_812 hLW1.2.1 hS1 (fun H2 locs2 hP2 hk2 hS2 => ?_)
    have hLW2 := hLW1.m C hP2 hk2
    refine lv_istore (lv' := [(6, .int r), (5, .int 0), (0, .ref b), (1, .ref (g 0)), (2, .ref (gm 0)), (3, .ref qo), (4, .int x4)]) hx hb dL_law_815 hl (by decide) rfl (fun ls hl => ?_)
    refine lv_aload_n hx hb dL_law_817 rfl (lv_at hl 4 rfl) ?_
    refine lc_call (T := mT) (g := gm) (A := AM) (n := 0) (t := []) (rest := []) hx hb hml hown hts cK cN cstm cAM hl.1 (c_X6_thrown cM _ Sm1 _ rfl hth) rfl (good_Vt kl_L_80 ki_X6_thrown ks_X6_thrown kn_X6 kc_X6_thrown) rfl ⟨rfl, rfl⟩ rfl rfl (by decide +kernel) ⟨by decide, by decide⟩ hfcx (Nat.le_of_ble_eq_true rfl) dL_law_818 hLW2.2.1 hS2 (fun H3 locs3 hP3 hk3 hS3 => ?_)
    have hLW3 := hLW2.m C hP3 hk3
    refine lv_iload hx hb dL_law_821 (lv_at hl 1 rfl) ?_
    refine lv_icmp_eq (tgt := 828) hx hb dL_law_823 (by decide) (fun _ => ?_) (fun hne => absurd rfl hne)
    refine lv_iload hx hb dL_law_828 (lv_at hl 1 rfl) ?_
    refine lv_if_ne (tgt := 845) hx hb dL_law_830 (by decide) (fun hne => absurd rfl hne) (fun _ => ?_)
    refine lv_aload_n hx hb dL_law_833 rfl (lv_at hl 5 rfl) ?_
    refine lv_iconst (v := 0) hx hb dL_law_834 (by decide) ?_
    have hPo : va_P D vwCl [(qo, .inl (cJ, 1, .inr (.inl (vp_updL f (0 : Int32).toNatClampNeg r.toInt64))))] H3 := fun k x hx => by
      have hz : k < 1 := (List.getElem?_eq_some_iff.mp hx).1
      rw [show k = 0 by omega] at hx
      cases hx
      exact hLW3.2.2
    refine va_lald (D := D) hx hb cK hPo 0 2 rfl rfl (vp_in_iff.mpr (by decide)) dL_law_835 ?_
    rw [pk_uLs]
    refine lv_iload hx hb dL_law_836 (lv_at hl 0 rfl) ?_
    refine lv_i2l hx hb dL_law_838 rfl ?_
    refine W.lcmp hx hb dL_law_839 ?_
    refine lv_if_eq (tgt := 845) hx hb dL_law_840 (by decide) (fun _ => ?_) (fun hne => absurd (cmp_same _) hne)
    refine lv_goto (tgt := 1059) hx hb dL_law_845 (by decide) ?_
    refine W.widen (k := cells + 1) (n := slots + 6) (by omega) (by omega) ?_
    exact kk S1 Sm1 _ H3 locs3 ls hrl hLW3 hS3 (lv_sub hl [2, 3, 4, 5, 6] rfl)
  · refine lc_wrap (A := AX) (n := 5) (av := [.ref (g 0), .int (xs (x4 + 1).toNatClampNeg), .int (xs (x4 + 2).toNatClampNeg), .int (xs (x4 + 3).toNatClampNeg), .ref qo]) (rest := []) (mc := 1) (ms := 6) hx hb hml hown hts cK cN cst cAX cq3 hl.1 (cWT_order cD cq1 hlt hsx) rfl (good_St kl_L_92 kt_L_order kn_L kw_L_order) rfl ⟨rfl, rfl⟩ (by decide +kernel) ⟨by decide, by decide⟩ ⟨by show cells + 1 ≤ 1091; omega, by show slots + 6 ≤ 11829; omega⟩ (Nat.le_of_ble_eq_true rfl) dL_law_788 hLW.1 hLW.2.2 hS (fun H1 locs1 hP1 hk1 hS1 => ?_)
    have hLW1 := hLW.w C hP1 hk1
    have hfcx : cells + 1 ≤ room_1.cells ∧ slots + 6 ≤ room_1.slots := ⟨by show cells + 1 ≤ 1091; omega, by show slots + 6 ≤ 11829; omega⟩
    refine lv_istore (lv' := [(5, .int 1), (0, .ref b), (1, .ref (g 0)), (2, .ref (gm 0)), (3, .ref qo), (4, .int x4)]) hx hb dL_law_791 hl (by decide) rfl (fun ls hl => ?_)
    refine lv_aload_n hx hb dL_law_793 rfl (lv_at hl 3 rfl) ?_
    refine lv_aload_n hx hb dL_law_794 rfl (lv_at hl 1 rfl) ?_
    refine lv_iload hx hb dL_law_795 (lv_at hl 5 rfl) ?_
    refine lv_iconst (v := 1) hx hb dL_law_797 (by decide) ?_
    refine lv_iadd hx hb dL_law_798 ?_
    refine va_sld hx hb hX hbl hbA hS1 hi1 dL_law_799 ?_
    refine lv_aload_n hx hb dL_law_800 rfl (lv_at hl 1 rfl) ?_
    refine lv_iload hx hb dL_law_801 (lv_at hl 5 rfl) ?_
    refine lv_iconst (v := 2) hx hb dL_law_803 (by decide) ?_
    refine lv_iadd hx hb dL_law_804 ?_
    refine va_sld hx hb hX hbl hbA hS1 hi2 dL_law_805 ?_
    refine lv_aload_n hx hb dL_law_806 rfl (lv_at hl 1 rfl) ?_
    refine lv_iload hx hb dL_law_807 (lv_at hl 5 rfl) ?_
    refine lv_iconst (v := 3) hx hb dL_law_809 (by decide) ?_
    refine lv_iadd hx hb dL_law_810 ?_
    refine va_sld hx hb hX hbl hbA hS1 hi3 dL_law_811 ?_
    refine lc_call (T := mT) (g := gm) (A := AM) (n := 3) (t := [.inl (xs (x4 + 1).toNatClampNeg), .inl (xs (x4 + 2).toNatClampNeg), .inl (xs (x4 + 3).toNatClampNeg)]) (rest := []) hx hb hml hown hts cK cN cstm cAM hl.1 (c_X6_order cM _ Sm _ rfl hsm) rfl (good_Vt kl_L_95 ki_X6_order ks_X6_order kn_X6 kc_X6_order) rfl ⟨rfl, rfl⟩ rfl rfl (by decide +kernel) ⟨by decide, by decide⟩ hfcx (Nat.le_of_ble_eq_true rfl) dL_law_812 hLW1.2.1 hS1 (fun H2 locs2 hP2 hk2 hS2 => ?_)
    have hLW2 := hLW1.m C hP2 hk2
    refine lv_istore (lv' := [(6, .int r), (5, .int 1), (0, .ref b), (1, .ref (g 0)), (2, .ref (gm 0)), (3, .ref qo), (4, .int x4)]) hx hb dL_law_815 hl (by decide) rfl (fun ls hl => ?_)
    refine lv_aload_n hx hb dL_law_817 rfl (lv_at hl 4 rfl) ?_
    refine lc_call (T := mT) (g := gm) (A := AM) (n := 0) (t := []) (rest := []) hx hb hml hown hts cK cN cstm cAM hl.1 (c_X6_thrown cM _ Sm1 _ rfl hth) rfl (good_Vt kl_L_80 ki_X6_thrown ks_X6_thrown kn_X6 kc_X6_thrown) rfl ⟨rfl, rfl⟩ rfl rfl (by decide +kernel) ⟨by decide, by decide⟩ hfcx (Nat.le_of_ble_eq_true rfl) dL_law_818 hLW2.2.1 hS2 (fun H3 locs3 hP3 hk3 hS3 => ?_)
    have hLW3 := hLW2.m C hP3 hk3
    refine lv_iload hx hb dL_law_821 (lv_at hl 1 rfl) ?_
    refine lv_icmp_eq (tgt := 828) hx hb dL_law_823 (by decide) (fun _ => ?_) (fun hne => absurd rfl hne)
    refine lv_iload hx hb dL_law_828 (lv_at hl 1 rfl) ?_
    refine lv_if_ne (tgt := 845) hx hb dL_law_830 (by decide) (fun _ => ?_) (fun he => absurd he (by decide))
    refine lv_goto (tgt := 1059) hx hb dL_law_845 (by decide) ?_
    refine W.widen (k := cells + 1) (n := slots + 6) (by omega) (by omega) ?_
    exact kk S1 Sm1 _ H3 locs3 ls hrl hLW3 hS3 (lv_sub hl [2, 3, 4, 5, 6] rfl)
set_option maxHeartbeats 4000000 in
set_option maxRecDepth 100000 in
theorem law_meets {p : Program} {l : Launch} {e : Env} {s : State} {m : MethodId} {below : List Frame} {meth : Method} {c : Code} {b L : Nat} {xs : Nat → Int32} {D : va_G} {cI cZ cJ : ClassId} {g gm : Nat → Nat} {qo : Nat} {AX AM : Nat → Prop} {Rel : XS → XS → Prop} {S Sm : XS} {f : Nat → Int64} {H : Heap} {locs : List Loc} {ls : Array Slot} {x4 : Int32} {cells slots : Nat} {Q : State → Prop} (C0 : lw_At p s m meth c b L xs) (hlt : l.stackTraces = false) (C : LC D cI cZ cJ g gm qo AX AM s) (hrel : PW Rel m_X5_meets m_X6_meets S Sm [.inl (xs (x4 + 1).toNatClampNeg), .inl (xs (x4 + 2).toNatClampNeg)]) (hi1 : vp_in (x4 + 1) L) (hi2 : vp_in (x4 + 2) L) (hi3 : vp_in (x4 + 3) L) (hi4 : vp_in (x4 + 4) L) (hi5 : vp_in (x4 + 5) L) (hLW : LW D cI cZ cJ g gm qo S Sm f H) (hS : va_S (fun q : Nat => s.heap.size ≤ q) s.heap H locs) (hl : lv_has ls 7 [(0, .ref b), (1, .ref (g 0)), (2, .ref (gm 0)), (3, .ref qo), (4, .int x4)]) (hf : cells + 1 ≤ 1091 ∧ slots + 6 ≤ 11829)
    (kk : ∀ (S1 Sm1 : XS) (f1 : Nat → Int64) (H1 : Heap) (locs1 : List Loc) (ls1 : Array Slot), Rel S1 Sm1 → LW D cI cZ cJ g gm qo S1 Sm1 f1 H1 → va_S (fun q : Nat => s.heap.size ≤ q) s.heap H1 locs1 → lv_has ls1 7 [(0, .ref b), (1, .ref (g 0)), (2, .ref (gm 0)), (3, .ref qo), (4, .int x4)] → W p l e room_1 s m #[Value.ref b] below meth c H1 locs1 (cells + 1) (slots + 6) Q (F0 m 1059 ls1 [])) :
    W p l e room_1 s m #[Value.ref b] below meth c H locs cells slots Q (F0 m 848 ls []) := by
  obtain ⟨hx, hb, hr, hml, hown, hts, hX, hbl, hlocks, hgv⟩ := id C0
  have hbA : ¬ (fun q : Nat => s.heap.size ≤ q) b := Nat.not_le.mpr hbl
  obtain ⟨cD, cM, cAX, cAM, ⟨cq1, cq2, cq3⟩, -, -, -, cK, cN, cst, cstm⟩ := id C
  have hfc : cells ≤ room_1.cells ∧ slots ≤ room_1.slots := ⟨by show cells ≤ 1091; omega, by show slots ≤ 11829; omega⟩
  obtain ⟨S1, Sm1, r, k, hsm, hth, hcase, hrl⟩ := hrel
  refine lv_aload_n hx hb dL_law_848 rfl (lv_at hl 1 rfl) ?_
  refine lv_aload_n hx hb dL_law_849 rfl (lv_at hl 0 rfl) ?_
  refine lv_iload hx hb dL_law_850 (lv_at hl 4 rfl) ?_
  refine lv_iconst (v := 1) hx hb dL_law_852 (by decide) ?_
  refine lv_iadd hx hb dL_law_853 ?_
  refine va_sld hx hb hX hbl hbA hS hi1 dL_law_854 ?_
  refine lv_aload_n hx hb dL_law_855 rfl (lv_at hl 0 rfl) ?_
  refine lv_iload hx hb dL_law_856 (lv_at hl 4 rfl) ?_
  refine lv_iconst (v := 2) hx hb dL_law_858 (by decide) ?_
  refine lv_iadd hx hb dL_law_859 ?_
  refine va_sld hx hb hX hbl hbA hS hi2 dL_law_860 ?_
  refine lv_aload_n hx hb dL_law_861 rfl (lv_at hl 3 rfl) ?_
  rcases hcase with ⟨rfl, hsx⟩ | ⟨rfl, hsx⟩
  · refine lc_wrap (A := AX) (n := 4) (av := [.ref (g 0), .int (xs (x4 + 1).toNatClampNeg), .int (xs (x4 + 2).toNatClampNeg), .ref qo]) (rest := []) (mc := 0) (ms := 0) hx hb hml hown hts cK cN cst cAX cq3 hl.1 (cWR_meets cD cq1 hsx) rfl (good_St kl_L_96 kt_L_meets kn_L kw_L_meets) rfl ⟨rfl, rfl⟩ (by decide +kernel) ⟨by decide, by decide⟩ ⟨by show cells + 0 ≤ 1091; omega, by show slots + 0 ≤ 11829; omega⟩ (Nat.le_of_ble_eq_true rfl) dL_law_862 hLW.1 hLW.2.2 hS (fun H1 locs1 hP1 hk1 hS1 => ?_)
    have hLW1 := hLW.w C hP1 hk1
    have hfcx : cells + 0 ≤ room_1.cells ∧ slots + 0 ≤ room_1.slots := ⟨by show cells + 0 ≤ 1091; omega, by show slots + 0 ≤ 11829; omega⟩
    refine lv_istore (lv' := [(5, .int 0), (0, .ref b), (1, .ref (g 0)), (2, .ref (gm 0)), (3, .ref qo), (4, .int x4)]) hx hb dL_law_865 hl (by decide) rfl (fun ls hl => ?_)
    refine lv_aload_n hx hb dL_law_867 rfl (lv_at hl 3 rfl) ?_
    refine lv_aload_n hx hb dL_law_868 rfl (lv_at hl 1 rfl) ?_
    refine lv_iload hx hb dL_law_869 (lv_at hl 5 rfl) ?_
    refine lv_iconst (v := 1) hx hb dL_law_871 (by decide) ?_
    refine lv_iadd hx hb dL_law_872 ?_
    refine va_sld hx hb hX hbl hbA hS1 hi1 dL_law_873 ?_
    refine lv_aload_n hx hb dL_law_874 rfl (lv_at hl 1 rfl) ?_
    refine lv_iload hx hb dL_law_875 (lv_at hl 5 rfl) ?_
    refine lv_iconst (v := 2) hx hb dL_law_877 (by decide) ?_
    refine lv_iadd hx hb dL_law_878 ?_
    refine va_sld hx hb hX hbl hbA hS1 hi2 dL_law_879 ?_
    refine lc_call (T := mT) (g := gm) (A := AM) (n := 2) (t := [.inl (xs (x4 + 1).toNatClampNeg), .inl (xs (x4 + 2).toNatClampNeg)]) (rest := []) hx hb hml hown hts cK cN cstm cAM hl.1 (c_X6_meets cM _ Sm _ rfl hsm) rfl (good_Vt kl_L_98 ki_X6_meets ks_X6_meets kn_X6 kc_X6_meets) rfl ⟨rfl, rfl⟩ rfl rfl (by decide +kernel) ⟨by decide, by decide⟩ hfcx (Nat.le_of_ble_eq_true rfl) dL_law_880 hLW1.2.1 hS1 (fun H2 locs2 hP2 hk2 hS2 => ?_)
    have hLW2 := hLW1.m C hP2 hk2
    refine lv_istore (lv' := [(6, .int r), (5, .int 0), (0, .ref b), (1, .ref (g 0)), (2, .ref (gm 0)), (3, .ref qo), (4, .int x4)]) hx hb dL_law_883 hl (by decide) rfl (fun ls hl => ?_)
    refine lv_aload_n hx hb dL_law_885 rfl (lv_at hl 4 rfl) ?_
    refine lc_call (T := mT) (g := gm) (A := AM) (n := 0) (t := []) (rest := []) hx hb hml hown hts cK cN cstm cAM hl.1 (c_X6_thrown cM _ Sm1 _ rfl hth) rfl (good_Vt kl_L_80 ki_X6_thrown ks_X6_thrown kn_X6 kc_X6_thrown) rfl ⟨rfl, rfl⟩ rfl rfl (by decide +kernel) ⟨by decide, by decide⟩ hfcx (Nat.le_of_ble_eq_true rfl) dL_law_886 hLW2.2.1 hS2 (fun H3 locs3 hP3 hk3 hS3 => ?_)
    have hLW3 := hLW2.m C hP3 hk3
    refine lv_iload hx hb dL_law_889 (lv_at hl 1 rfl) ?_
    refine lv_icmp_eq (tgt := 896) hx hb dL_law_891 (by decide) (fun _ => ?_) (fun hne => absurd rfl hne)
    refine lv_iload hx hb dL_law_896 (lv_at hl 1 rfl) ?_
    refine lv_if_ne (tgt := 913) hx hb dL_law_898 (by decide) (fun hne => absurd rfl hne) (fun _ => ?_)
    refine lv_aload_n hx hb dL_law_901 rfl (lv_at hl 5 rfl) ?_
    refine lv_iconst (v := 0) hx hb dL_law_902 (by decide) ?_
    have hPo : va_P D vwCl [(qo, .inl (cJ, 1, .inr (.inl (vp_updL f (0 : Int32).toNatClampNeg r.toInt64))))] H3 := fun k x hx => by
      have hz : k < 1 := (List.getElem?_eq_some_iff.mp hx).1
      rw [show k = 0 by omega] at hx
      cases hx
      exact hLW3.2.2
    refine va_lald (D := D) hx hb cK hPo 0 2 rfl rfl (vp_in_iff.mpr (by decide)) dL_law_903 ?_
    rw [pk_uLs]
    refine lv_iload hx hb dL_law_904 (lv_at hl 0 rfl) ?_
    refine lv_i2l hx hb dL_law_906 rfl ?_
    refine W.lcmp hx hb dL_law_907 ?_
    refine lv_if_eq (tgt := 913) hx hb dL_law_908 (by decide) (fun _ => ?_) (fun hne => absurd (cmp_same _) hne)
    refine lv_goto (tgt := 1059) hx hb dL_law_913 (by decide) ?_
    refine W.widen (k := cells + 1) (n := slots + 6) (by omega) (by omega) ?_
    exact kk S1 Sm1 _ H3 locs3 ls hrl hLW3 hS3 (lv_sub hl [2, 3, 4, 5, 6] rfl)
  · refine lc_wrap (A := AX) (n := 4) (av := [.ref (g 0), .int (xs (x4 + 1).toNatClampNeg), .int (xs (x4 + 2).toNatClampNeg), .ref qo]) (rest := []) (mc := 1) (ms := 6) hx hb hml hown hts cK cN cst cAX cq3 hl.1 (cWT_meets cD cq1 hlt hsx) rfl (good_St kl_L_96 kt_L_meets kn_L kw_L_meets) rfl ⟨rfl, rfl⟩ (by decide +kernel) ⟨by decide, by decide⟩ ⟨by show cells + 1 ≤ 1091; omega, by show slots + 6 ≤ 11829; omega⟩ (Nat.le_of_ble_eq_true rfl) dL_law_862 hLW.1 hLW.2.2 hS (fun H1 locs1 hP1 hk1 hS1 => ?_)
    have hLW1 := hLW.w C hP1 hk1
    have hfcx : cells + 1 ≤ room_1.cells ∧ slots + 6 ≤ room_1.slots := ⟨by show cells + 1 ≤ 1091; omega, by show slots + 6 ≤ 11829; omega⟩
    refine lv_istore (lv' := [(5, .int 1), (0, .ref b), (1, .ref (g 0)), (2, .ref (gm 0)), (3, .ref qo), (4, .int x4)]) hx hb dL_law_865 hl (by decide) rfl (fun ls hl => ?_)
    refine lv_aload_n hx hb dL_law_867 rfl (lv_at hl 3 rfl) ?_
    refine lv_aload_n hx hb dL_law_868 rfl (lv_at hl 1 rfl) ?_
    refine lv_iload hx hb dL_law_869 (lv_at hl 5 rfl) ?_
    refine lv_iconst (v := 1) hx hb dL_law_871 (by decide) ?_
    refine lv_iadd hx hb dL_law_872 ?_
    refine va_sld hx hb hX hbl hbA hS1 hi1 dL_law_873 ?_
    refine lv_aload_n hx hb dL_law_874 rfl (lv_at hl 1 rfl) ?_
    refine lv_iload hx hb dL_law_875 (lv_at hl 5 rfl) ?_
    refine lv_iconst (v := 2) hx hb dL_law_877 (by decide) ?_
    refine lv_iadd hx hb dL_law_878 ?_
    refine va_sld hx hb hX hbl hbA hS1 hi2 dL_law_879 ?_
    refine lc_call (T := mT) (g := gm) (A := AM) (n := 2) (t := [.inl (xs (x4 + 1).toNatClampNeg), .inl (xs (x4 + 2).toNatClampNeg)]) (rest := []) hx hb hml hown hts cK cN cstm cAM hl.1 (c_X6_meets cM _ Sm _ rfl hsm) rfl (good_Vt kl_L_98 ki_X6_meets ks_X6_meets kn_X6 kc_X6_meets) rfl ⟨rfl, rfl⟩ rfl rfl (by decide +kernel) ⟨by decide, by decide⟩ hfcx (Nat.le_of_ble_eq_true rfl) dL_law_880 hLW1.2.1 hS1 (fun H2 locs2 hP2 hk2 hS2 => ?_)
    have hLW2 := hLW1.m C hP2 hk2
    refine lv_istore (lv' := [(6, .int r), (5, .int 1), (0, .ref b), (1, .ref (g 0)), (2, .ref (gm 0)), (3, .ref qo), (4, .int x4)]) hx hb dL_law_883 hl (by decide) rfl (fun ls hl => ?_)
    refine lv_aload_n hx hb dL_law_885 rfl (lv_at hl 4 rfl) ?_
    refine lc_call (T := mT) (g := gm) (A := AM) (n := 0) (t := []) (rest := []) hx hb hml hown hts cK cN cstm cAM hl.1 (c_X6_thrown cM _ Sm1 _ rfl hth) rfl (good_Vt kl_L_80 ki_X6_thrown ks_X6_thrown kn_X6 kc_X6_thrown) rfl ⟨rfl, rfl⟩ rfl rfl (by decide +kernel) ⟨by decide, by decide⟩ hfcx (Nat.le_of_ble_eq_true rfl) dL_law_886 hLW2.2.1 hS2 (fun H3 locs3 hP3 hk3 hS3 => ?_)
    have hLW3 := hLW2.m C hP3 hk3
    refine lv_iload hx hb dL_law_889 (lv_at hl 1 rfl) ?_
    refine lv_icmp_eq (tgt := 896) hx hb dL_law_891 (by decide) (fun _ => ?_) (fun hne => absurd rfl hne)
    refine lv_iload hx hb dL_law_896 (lv_at hl 1 rfl) ?_
    refine lv_if_ne (tgt := 913) hx hb dL_law_898 (by decide) (fun _ => ?_) (fun he => absurd he (by decide))
    refine lv_goto (tgt := 1059) hx hb dL_law_913 (by decide) ?_
    refine W.widen (k := cells + 1) (n := slots + 6) (by omega) (by omega) ?_
    exact kk S1 Sm1 _ H3 locs3 ls hrl hLW3 hS3 (lv_sub hl [2, 3, 4, 5, 6] rfl)
set_option maxHeartbeats 4000000 in
set_option maxRecDepth 100000 in
theorem law_wide {p : Program} {l : Launch} {e : Env} {s : State} {m : MethodId} {below : List Frame} {meth : Method} {c : Code} {b L : Nat} {xs : Nat → Int32} {D : va_G} {cI cZ cJ : ClassId} {g gm : Nat → Nat} {qo : Nat} {AX AM : Nat → Prop} {Rel : XS → XS → Prop} {S Sm : XS} {f : Nat → Int64} {H : Heap} {locs : List Loc} {ls : Array Slot} {x4 : Int32} {cells slots : Nat} {Q : State → Prop} (C0 : lw_At p s m meth c b L xs) (hlt : l.stackTraces = false) (C : LC D cI cZ cJ g gm qo AX AM s) (hrel : PD Rel m_X5_wide m_X6_wide S Sm [.inl (xs (x4 + 1).toNatClampNeg)]) (hi1 : vp_in (x4 + 1) L) (hi2 : vp_in (x4 + 2) L) (hi3 : vp_in (x4 + 3) L) (hi4 : vp_in (x4 + 4) L) (hi5 : vp_in (x4 + 5) L) (hLW : LW D cI cZ cJ g gm qo S Sm f H) (hS : va_S (fun q : Nat => s.heap.size ≤ q) s.heap H locs) (hl : lv_has ls 7 [(0, .ref b), (1, .ref (g 0)), (2, .ref (gm 0)), (3, .ref qo), (4, .int x4)]) (hf : cells + 1 ≤ 1091 ∧ slots + 6 ≤ 11829)
    (kk : ∀ (S1 Sm1 : XS) (f1 : Nat → Int64) (H1 : Heap) (locs1 : List Loc) (ls1 : Array Slot), Rel S1 Sm1 → LW D cI cZ cJ g gm qo S1 Sm1 f1 H1 → va_S (fun q : Nat => s.heap.size ≤ q) s.heap H1 locs1 → lv_has ls1 7 [(0, .ref b), (1, .ref (g 0)), (2, .ref (gm 0)), (3, .ref qo), (4, .int x4)] → W p l e room_1 s m #[Value.ref b] below meth c H1 locs1 (cells + 1) (slots + 6) Q (F0 m 1059 ls1 [])) :
    W p l e room_1 s m #[Value.ref b] below meth c H locs cells slots Q (F0 m 916 ls []) := by
  obtain ⟨hx, hb, hr, hml, hown, hts, hX, hbl, hlocks, hgv⟩ := id C0
  have hbA : ¬ (fun q : Nat => s.heap.size ≤ q) b := Nat.not_le.mpr hbl
  obtain ⟨cD, cM, cAX, cAM, ⟨cq1, cq2, cq3⟩, -, -, -, cK, cN, cst, cstm⟩ := id C
  have hfc : cells ≤ room_1.cells ∧ slots ≤ room_1.slots := ⟨by show cells ≤ 1091; omega, by show slots ≤ 11829; omega⟩
  have hfcx := hfc
  obtain ⟨S1, Sm1, r, hsx, hsm, hrl⟩ := hrel
  refine lv_aload_n hx hb dL_law_916 rfl (lv_at hl 1 rfl) ?_
  refine lv_aload_n hx hb dL_law_917 rfl (lv_at hl 0 rfl) ?_
  refine lv_iload hx hb dL_law_918 (lv_at hl 4 rfl) ?_
  refine lv_iconst (v := 1) hx hb dL_law_920 (by decide) ?_
  refine lv_iadd hx hb dL_law_921 ?_
  refine va_sld hx hb hX hbl hbA hS hi1 dL_law_922 ?_
  refine lc_call (T := xT) (g := g) (A := AX) (n := 1) (t := [.inl (xs (x4 + 1).toNatClampNeg)]) (rest := []) hx hb hml hown hts cK cN cst cAX hl.1 (c_X5_wide cD _ S _ rfl hsx) rfl (good_Vt kl_L_99 ki_X5_wide ks_X5_wide kn_X5 kc_X5_wide) rfl ⟨rfl, rfl⟩ rfl rfl (by decide +kernel) ⟨by decide, by decide⟩ hfc (Nat.le_of_ble_eq_true rfl) dL_law_923 hLW.1 hS (fun H1 locs1 hP1 hk1 hS1 => ?_)
  have hLW1 := hLW.x C hP1 hk1
  refine lv_aload_n hx hb dL_law_926 rfl (lv_at hl 2 rfl) ?_
  refine lv_aload_n hx hb dL_law_927 rfl (lv_at hl 0 rfl) ?_
  refine lv_iload hx hb dL_law_928 (lv_at hl 4 rfl) ?_
  refine lv_iconst (v := 1) hx hb dL_law_930 (by decide) ?_
  refine lv_iadd hx hb dL_law_931 ?_
  refine va_sld hx hb hX hbl hbA hS1 hi1 dL_law_932 ?_
  refine lc_call (T := mT) (g := gm) (A := AM) (n := 1) (t := [.inl (xs (x4 + 1).toNatClampNeg)]) (rest := [.int r]) hx hb hml hown hts cK cN cstm cAM hl.1 (c_X6_wide cM _ Sm _ rfl hsm) rfl (good_Vt kl_L_102 ki_X6_wide ks_X6_wide kn_X6 kc_X6_wide) rfl ⟨rfl, rfl⟩ rfl rfl (by decide +kernel) ⟨by decide, by decide⟩ hfcx (Nat.le_of_ble_eq_true rfl) dL_law_933 hLW1.2.1 hS1 (fun H2 locs2 hP2 hk2 hS2 => ?_)
  have hLW2 := hLW1.m C hP2 hk2
  refine lv_icmp_eq (tgt := 1059) hx hb dL_law_936 (by decide) (fun _ => ?_) (fun hne => absurd rfl hne)
  refine W.widen (k := cells + 1) (n := slots + 6) (Nat.le_add_right _ _) (Nat.le_add_right _ _) ?_
  exact kk S1 Sm1 f H2 locs2 ls hrl hLW2 hS2 hl
set_option maxHeartbeats 4000000 in
set_option maxRecDepth 100000 in
theorem law_push {p : Program} {l : Launch} {e : Env} {s : State} {m : MethodId} {below : List Frame} {meth : Method} {c : Code} {b L : Nat} {xs : Nat → Int32} {D : va_G} {cI cZ cJ : ClassId} {g gm : Nat → Nat} {qo : Nat} {AX AM : Nat → Prop} {Rel : XS → XS → Prop} {S Sm : XS} {f : Nat → Int64} {H : Heap} {locs : List Loc} {ls : Array Slot} {x4 : Int32} {cells slots : Nat} {Q : State → Prop} (C0 : lw_At p s m meth c b L xs) (hlt : l.stackTraces = false) (C : LC D cI cZ cJ g gm qo AX AM s) (hrel : PD Rel m_X5_push m_X6_push S Sm [.inl (xs (x4 + 1).toNatClampNeg)]) (hi1 : vp_in (x4 + 1) L) (hi2 : vp_in (x4 + 2) L) (hi3 : vp_in (x4 + 3) L) (hi4 : vp_in (x4 + 4) L) (hi5 : vp_in (x4 + 5) L) (hLW : LW D cI cZ cJ g gm qo S Sm f H) (hS : va_S (fun q : Nat => s.heap.size ≤ q) s.heap H locs) (hl : lv_has ls 7 [(0, .ref b), (1, .ref (g 0)), (2, .ref (gm 0)), (3, .ref qo), (4, .int x4)]) (hf : cells + 1 ≤ 1091 ∧ slots + 6 ≤ 11829)
    (kk : ∀ (S1 Sm1 : XS) (f1 : Nat → Int64) (H1 : Heap) (locs1 : List Loc) (ls1 : Array Slot), Rel S1 Sm1 → LW D cI cZ cJ g gm qo S1 Sm1 f1 H1 → va_S (fun q : Nat => s.heap.size ≤ q) s.heap H1 locs1 → lv_has ls1 7 [(0, .ref b), (1, .ref (g 0)), (2, .ref (gm 0)), (3, .ref qo), (4, .int x4)] → W p l e room_1 s m #[Value.ref b] below meth c H1 locs1 (cells + 1) (slots + 6) Q (F0 m 1059 ls1 [])) :
    W p l e room_1 s m #[Value.ref b] below meth c H locs cells slots Q (F0 m 941 ls []) := by
  obtain ⟨hx, hb, hr, hml, hown, hts, hX, hbl, hlocks, hgv⟩ := id C0
  have hbA : ¬ (fun q : Nat => s.heap.size ≤ q) b := Nat.not_le.mpr hbl
  obtain ⟨cD, cM, cAX, cAM, ⟨cq1, cq2, cq3⟩, -, -, -, cK, cN, cst, cstm⟩ := id C
  have hfc : cells ≤ room_1.cells ∧ slots ≤ room_1.slots := ⟨by show cells ≤ 1091; omega, by show slots ≤ 11829; omega⟩
  have hfcx := hfc
  obtain ⟨S1, Sm1, r, hsx, hsm, hrl⟩ := hrel
  refine lv_aload_n hx hb dL_law_941 rfl (lv_at hl 1 rfl) ?_
  refine lv_aload_n hx hb dL_law_942 rfl (lv_at hl 0 rfl) ?_
  refine lv_iload hx hb dL_law_943 (lv_at hl 4 rfl) ?_
  refine lv_iconst (v := 1) hx hb dL_law_945 (by decide) ?_
  refine lv_iadd hx hb dL_law_946 ?_
  refine va_sld hx hb hX hbl hbA hS hi1 dL_law_947 ?_
  refine lc_call (T := xT) (g := g) (A := AX) (n := 1) (t := [.inl (xs (x4 + 1).toNatClampNeg)]) (rest := []) hx hb hml hown hts cK cN cst cAX hl.1 (c_X5_push cD _ S _ rfl hsx) rfl (good_Vt kl_L_103 ki_X5_push ks_X5_push kn_X5 kc_X5_push) rfl ⟨rfl, rfl⟩ rfl rfl (by decide +kernel) ⟨by decide, by decide⟩ hfc (Nat.le_of_ble_eq_true rfl) dL_law_948 hLW.1 hS (fun H1 locs1 hP1 hk1 hS1 => ?_)
  have hLW1 := hLW.x C hP1 hk1
  refine lv_aload_n hx hb dL_law_951 rfl (lv_at hl 2 rfl) ?_
  refine lv_aload_n hx hb dL_law_952 rfl (lv_at hl 0 rfl) ?_
  refine lv_iload hx hb dL_law_953 (lv_at hl 4 rfl) ?_
  refine lv_iconst (v := 1) hx hb dL_law_955 (by decide) ?_
  refine lv_iadd hx hb dL_law_956 ?_
  refine va_sld hx hb hX hbl hbA hS1 hi1 dL_law_957 ?_
  refine lc_call (T := mT) (g := gm) (A := AM) (n := 1) (t := [.inl (xs (x4 + 1).toNatClampNeg)]) (rest := [.int r]) hx hb hml hown hts cK cN cstm cAM hl.1 (c_X6_push cM _ Sm _ rfl hsm) rfl (good_Vt kl_L_106 ki_X6_push ks_X6_push kn_X6 kc_X6_push) rfl ⟨rfl, rfl⟩ rfl rfl (by decide +kernel) ⟨by decide, by decide⟩ hfcx (Nat.le_of_ble_eq_true rfl) dL_law_958 hLW1.2.1 hS1 (fun H2 locs2 hP2 hk2 hS2 => ?_)
  have hLW2 := hLW1.m C hP2 hk2
  refine lv_icmp_eq (tgt := 1059) hx hb dL_law_961 (by decide) (fun _ => ?_) (fun hne => absurd rfl hne)
  refine W.widen (k := cells + 1) (n := slots + 6) (Nat.le_add_right _ _) (Nat.le_add_right _ _) ?_
  exact kk S1 Sm1 f H2 locs2 ls hrl hLW2 hS2 hl
set_option maxHeartbeats 4000000 in
set_option maxRecDepth 100000 in
theorem law_item {p : Program} {l : Launch} {e : Env} {s : State} {m : MethodId} {below : List Frame} {meth : Method} {c : Code} {b L : Nat} {xs : Nat → Int32} {D : va_G} {cI cZ cJ : ClassId} {g gm : Nat → Nat} {qo : Nat} {AX AM : Nat → Prop} {Rel : XS → XS → Prop} {S Sm : XS} {f : Nat → Int64} {H : Heap} {locs : List Loc} {ls : Array Slot} {x4 : Int32} {cells slots : Nat} {Q : State → Prop} (C0 : lw_At p s m meth c b L xs) (hlt : l.stackTraces = false) (C : LC D cI cZ cJ g gm qo AX AM s) (hrel : PD Rel m_X5_item m_X6_item S Sm [.inl (xs (x4 + 1).toNatClampNeg), .inl (xs (x4 + 2).toNatClampNeg)]) (hi1 : vp_in (x4 + 1) L) (hi2 : vp_in (x4 + 2) L) (hi3 : vp_in (x4 + 3) L) (hi4 : vp_in (x4 + 4) L) (hi5 : vp_in (x4 + 5) L) (hLW : LW D cI cZ cJ g gm qo S Sm f H) (hS : va_S (fun q : Nat => s.heap.size ≤ q) s.heap H locs) (hl : lv_has ls 7 [(0, .ref b), (1, .ref (g 0)), (2, .ref (gm 0)), (3, .ref qo), (4, .int x4)]) (hf : cells + 1 ≤ 1091 ∧ slots + 6 ≤ 11829)
    (kk : ∀ (S1 Sm1 : XS) (f1 : Nat → Int64) (H1 : Heap) (locs1 : List Loc) (ls1 : Array Slot), Rel S1 Sm1 → LW D cI cZ cJ g gm qo S1 Sm1 f1 H1 → va_S (fun q : Nat => s.heap.size ≤ q) s.heap H1 locs1 → lv_has ls1 7 [(0, .ref b), (1, .ref (g 0)), (2, .ref (gm 0)), (3, .ref qo), (4, .int x4)] → W p l e room_1 s m #[Value.ref b] below meth c H1 locs1 (cells + 1) (slots + 6) Q (F0 m 1059 ls1 [])) :
    W p l e room_1 s m #[Value.ref b] below meth c H locs cells slots Q (F0 m 966 ls []) := by
  obtain ⟨hx, hb, hr, hml, hown, hts, hX, hbl, hlocks, hgv⟩ := id C0
  have hbA : ¬ (fun q : Nat => s.heap.size ≤ q) b := Nat.not_le.mpr hbl
  obtain ⟨cD, cM, cAX, cAM, ⟨cq1, cq2, cq3⟩, -, -, -, cK, cN, cst, cstm⟩ := id C
  have hfc : cells ≤ room_1.cells ∧ slots ≤ room_1.slots := ⟨by show cells ≤ 1091; omega, by show slots ≤ 11829; omega⟩
  have hfcx := hfc
  obtain ⟨S1, Sm1, r, hsx, hsm, hrl⟩ := hrel
  refine lv_aload_n hx hb dL_law_966 rfl (lv_at hl 1 rfl) ?_
  refine lv_aload_n hx hb dL_law_967 rfl (lv_at hl 0 rfl) ?_
  refine lv_iload hx hb dL_law_968 (lv_at hl 4 rfl) ?_
  refine lv_iconst (v := 1) hx hb dL_law_970 (by decide) ?_
  refine lv_iadd hx hb dL_law_971 ?_
  refine va_sld hx hb hX hbl hbA hS hi1 dL_law_972 ?_
  refine lv_aload_n hx hb dL_law_973 rfl (lv_at hl 0 rfl) ?_
  refine lv_iload hx hb dL_law_974 (lv_at hl 4 rfl) ?_
  refine lv_iconst (v := 2) hx hb dL_law_976 (by decide) ?_
  refine lv_iadd hx hb dL_law_977 ?_
  refine va_sld hx hb hX hbl hbA hS hi2 dL_law_978 ?_
  refine lc_call (T := xT) (g := g) (A := AX) (n := 2) (t := [.inl (xs (x4 + 1).toNatClampNeg), .inl (xs (x4 + 2).toNatClampNeg)]) (rest := []) hx hb hml hown hts cK cN cst cAX hl.1 (c_X5_item cD _ S _ rfl hsx) rfl (good_Vt kl_L_107 ki_X5_item ks_X5_item kn_X5 kc_X5_item) rfl ⟨rfl, rfl⟩ rfl rfl (by decide +kernel) ⟨by decide, by decide⟩ hfc (Nat.le_of_ble_eq_true rfl) dL_law_979 hLW.1 hS (fun H1 locs1 hP1 hk1 hS1 => ?_)
  have hLW1 := hLW.x C hP1 hk1
  refine lv_aload_n hx hb dL_law_982 rfl (lv_at hl 2 rfl) ?_
  refine lv_aload_n hx hb dL_law_983 rfl (lv_at hl 0 rfl) ?_
  refine lv_iload hx hb dL_law_984 (lv_at hl 4 rfl) ?_
  refine lv_iconst (v := 1) hx hb dL_law_986 (by decide) ?_
  refine lv_iadd hx hb dL_law_987 ?_
  refine va_sld hx hb hX hbl hbA hS1 hi1 dL_law_988 ?_
  refine lv_aload_n hx hb dL_law_989 rfl (lv_at hl 0 rfl) ?_
  refine lv_iload hx hb dL_law_990 (lv_at hl 4 rfl) ?_
  refine lv_iconst (v := 2) hx hb dL_law_992 (by decide) ?_
  refine lv_iadd hx hb dL_law_993 ?_
  refine va_sld hx hb hX hbl hbA hS1 hi2 dL_law_994 ?_
  refine lc_call (T := mT) (g := gm) (A := AM) (n := 2) (t := [.inl (xs (x4 + 1).toNatClampNeg), .inl (xs (x4 + 2).toNatClampNeg)]) (rest := [.int r]) hx hb hml hown hts cK cN cstm cAM hl.1 (c_X6_item cM _ Sm _ rfl hsm) rfl (good_Vt kl_L_110 ki_X6_item ks_X6_item kn_X6 kc_X6_item) rfl ⟨rfl, rfl⟩ rfl rfl (by decide +kernel) ⟨by decide, by decide⟩ hfcx (Nat.le_of_ble_eq_true rfl) dL_law_995 hLW1.2.1 hS1 (fun H2 locs2 hP2 hk2 hS2 => ?_)
  have hLW2 := hLW1.m C hP2 hk2
  refine lv_icmp_eq (tgt := 1059) hx hb dL_law_998 (by decide) (fun _ => ?_) (fun hne => absurd rfl hne)
  refine W.widen (k := cells + 1) (n := slots + 6) (Nat.le_add_right _ _) (Nat.le_add_right _ _) ?_
  exact kk S1 Sm1 f H2 locs2 ls hrl hLW2 hS2 hl
set_option maxHeartbeats 4000000 in
set_option maxRecDepth 100000 in
theorem law_count {p : Program} {l : Launch} {e : Env} {s : State} {m : MethodId} {below : List Frame} {meth : Method} {c : Code} {b L : Nat} {xs : Nat → Int32} {D : va_G} {cI cZ cJ : ClassId} {g gm : Nat → Nat} {qo : Nat} {AX AM : Nat → Prop} {Rel : XS → XS → Prop} {S Sm : XS} {f : Nat → Int64} {H : Heap} {locs : List Loc} {ls : Array Slot} {x4 : Int32} {cells slots : Nat} {Q : State → Prop} (C0 : lw_At p s m meth c b L xs) (hlt : l.stackTraces = false) (C : LC D cI cZ cJ g gm qo AX AM s) (hrel : PW Rel m_X5_count m_X6_count S Sm [.inl (xs (x4 + 1).toNatClampNeg)]) (hi1 : vp_in (x4 + 1) L) (hi2 : vp_in (x4 + 2) L) (hi3 : vp_in (x4 + 3) L) (hi4 : vp_in (x4 + 4) L) (hi5 : vp_in (x4 + 5) L) (hLW : LW D cI cZ cJ g gm qo S Sm f H) (hS : va_S (fun q : Nat => s.heap.size ≤ q) s.heap H locs) (hl : lv_has ls 7 [(0, .ref b), (1, .ref (g 0)), (2, .ref (gm 0)), (3, .ref qo), (4, .int x4)]) (hf : cells + 1 ≤ 1091 ∧ slots + 6 ≤ 11829)
    (kk : ∀ (S1 Sm1 : XS) (f1 : Nat → Int64) (H1 : Heap) (locs1 : List Loc) (ls1 : Array Slot), Rel S1 Sm1 → LW D cI cZ cJ g gm qo S1 Sm1 f1 H1 → va_S (fun q : Nat => s.heap.size ≤ q) s.heap H1 locs1 → lv_has ls1 7 [(0, .ref b), (1, .ref (g 0)), (2, .ref (gm 0)), (3, .ref qo), (4, .int x4)] → W p l e room_1 s m #[Value.ref b] below meth c H1 locs1 (cells + 1) (slots + 6) Q (F0 m 1059 ls1 [])) :
    W p l e room_1 s m #[Value.ref b] below meth c H locs cells slots Q (F0 m 1003 ls []) := by
  obtain ⟨hx, hb, hr, hml, hown, hts, hX, hbl, hlocks, hgv⟩ := id C0
  have hbA : ¬ (fun q : Nat => s.heap.size ≤ q) b := Nat.not_le.mpr hbl
  obtain ⟨cD, cM, cAX, cAM, ⟨cq1, cq2, cq3⟩, -, -, -, cK, cN, cst, cstm⟩ := id C
  have hfc : cells ≤ room_1.cells ∧ slots ≤ room_1.slots := ⟨by show cells ≤ 1091; omega, by show slots ≤ 11829; omega⟩
  obtain ⟨S1, Sm1, r, k, hsm, hth, hcase, hrl⟩ := hrel
  refine lv_aload_n hx hb dL_law_1003 rfl (lv_at hl 1 rfl) ?_
  refine lv_aload_n hx hb dL_law_1004 rfl (lv_at hl 0 rfl) ?_
  refine lv_iload hx hb dL_law_1005 (lv_at hl 4 rfl) ?_
  refine lv_iconst (v := 1) hx hb dL_law_1007 (by decide) ?_
  refine lv_iadd hx hb dL_law_1008 ?_
  refine va_sld hx hb hX hbl hbA hS hi1 dL_law_1009 ?_
  refine lv_aload_n hx hb dL_law_1010 rfl (lv_at hl 3 rfl) ?_
  rcases hcase with ⟨rfl, hsx⟩ | ⟨rfl, hsx⟩
  · refine lc_wrap (A := AX) (n := 3) (av := [.ref (g 0), .int (xs (x4 + 1).toNatClampNeg), .ref qo]) (rest := []) (mc := 0) (ms := 0) hx hb hml hown hts cK cN cst cAX cq3 hl.1 (cWR_count cD cq1 hsx) rfl (good_St kl_L_111 kt_L_count kn_L kw_L_count) rfl ⟨rfl, rfl⟩ (by decide +kernel) ⟨by decide, by decide⟩ ⟨by show cells + 0 ≤ 1091; omega, by show slots + 0 ≤ 11829; omega⟩ (Nat.le_of_ble_eq_true rfl) dL_law_1011 hLW.1 hLW.2.2 hS (fun H1 locs1 hP1 hk1 hS1 => ?_)
    have hLW1 := hLW.w C hP1 hk1
    have hfcx : cells + 0 ≤ room_1.cells ∧ slots + 0 ≤ room_1.slots := ⟨by show cells + 0 ≤ 1091; omega, by show slots + 0 ≤ 11829; omega⟩
    refine lv_istore (lv' := [(5, .int 0), (0, .ref b), (1, .ref (g 0)), (2, .ref (gm 0)), (3, .ref qo), (4, .int x4)]) hx hb dL_law_1014 hl (by decide) rfl (fun ls hl => ?_)
    refine lv_aload_n hx hb dL_law_1016 rfl (lv_at hl 3 rfl) ?_
    refine lv_aload_n hx hb dL_law_1017 rfl (lv_at hl 1 rfl) ?_
    refine lv_iload hx hb dL_law_1018 (lv_at hl 5 rfl) ?_
    refine lv_iconst (v := 1) hx hb dL_law_1020 (by decide) ?_
    refine lv_iadd hx hb dL_law_1021 ?_
    refine va_sld hx hb hX hbl hbA hS1 hi1 dL_law_1022 ?_
    refine lc_call (T := mT) (g := gm) (A := AM) (n := 1) (t := [.inl (xs (x4 + 1).toNatClampNeg)]) (rest := []) hx hb hml hown hts cK cN cstm cAM hl.1 (c_X6_count cM _ Sm _ rfl hsm) rfl (good_Vt kl_L_114 ki_X6_count ks_X6_count kn_X6 kc_X6_count) rfl ⟨rfl, rfl⟩ rfl rfl (by decide +kernel) ⟨by decide, by decide⟩ hfcx (Nat.le_of_ble_eq_true rfl) dL_law_1023 hLW1.2.1 hS1 (fun H2 locs2 hP2 hk2 hS2 => ?_)
    have hLW2 := hLW1.m C hP2 hk2
    refine lv_istore (lv' := [(6, .int r), (5, .int 0), (0, .ref b), (1, .ref (g 0)), (2, .ref (gm 0)), (3, .ref qo), (4, .int x4)]) hx hb dL_law_1026 hl (by decide) rfl (fun ls hl => ?_)
    refine lv_aload_n hx hb dL_law_1028 rfl (lv_at hl 4 rfl) ?_
    refine lc_call (T := mT) (g := gm) (A := AM) (n := 0) (t := []) (rest := []) hx hb hml hown hts cK cN cstm cAM hl.1 (c_X6_thrown cM _ Sm1 _ rfl hth) rfl (good_Vt kl_L_80 ki_X6_thrown ks_X6_thrown kn_X6 kc_X6_thrown) rfl ⟨rfl, rfl⟩ rfl rfl (by decide +kernel) ⟨by decide, by decide⟩ hfcx (Nat.le_of_ble_eq_true rfl) dL_law_1029 hLW2.2.1 hS2 (fun H3 locs3 hP3 hk3 hS3 => ?_)
    have hLW3 := hLW2.m C hP3 hk3
    refine lv_iload hx hb dL_law_1032 (lv_at hl 1 rfl) ?_
    refine lv_icmp_eq (tgt := 1039) hx hb dL_law_1034 (by decide) (fun _ => ?_) (fun hne => absurd rfl hne)
    refine lv_iload hx hb dL_law_1039 (lv_at hl 1 rfl) ?_
    refine lv_if_ne (tgt := 1056) hx hb dL_law_1041 (by decide) (fun hne => absurd rfl hne) (fun _ => ?_)
    refine lv_aload_n hx hb dL_law_1044 rfl (lv_at hl 5 rfl) ?_
    refine lv_iconst (v := 0) hx hb dL_law_1045 (by decide) ?_
    have hPo : va_P D vwCl [(qo, .inl (cJ, 1, .inr (.inl (vp_updL f (0 : Int32).toNatClampNeg r.toInt64))))] H3 := fun k x hx => by
      have hz : k < 1 := (List.getElem?_eq_some_iff.mp hx).1
      rw [show k = 0 by omega] at hx
      cases hx
      exact hLW3.2.2
    refine va_lald (D := D) hx hb cK hPo 0 2 rfl rfl (vp_in_iff.mpr (by decide)) dL_law_1046 ?_
    rw [pk_uLs]
    refine lv_iload hx hb dL_law_1047 (lv_at hl 0 rfl) ?_
    refine lv_i2l hx hb dL_law_1049 rfl ?_
    refine W.lcmp hx hb dL_law_1050 ?_
    refine lv_if_eq (tgt := 1056) hx hb dL_law_1051 (by decide) (fun _ => ?_) (fun hne => absurd (cmp_same _) hne)
    refine lv_goto (tgt := 1059) hx hb dL_law_1056 (by decide) ?_
    refine W.widen (k := cells + 1) (n := slots + 6) (by omega) (by omega) ?_
    exact kk S1 Sm1 _ H3 locs3 ls hrl hLW3 hS3 (lv_sub hl [2, 3, 4, 5, 6] rfl)
  · refine lc_wrap (A := AX) (n := 3) (av := [.ref (g 0), .int (xs (x4 + 1).toNatClampNeg), .ref qo]) (rest := []) (mc := 1) (ms := 6) hx hb hml hown hts cK cN cst cAX cq3 hl.1 (cWT_count cD cq1 hlt hsx) rfl (good_St kl_L_111 kt_L_count kn_L kw_L_count) rfl ⟨rfl, rfl⟩ (by decide +kernel) ⟨by decide, by decide⟩ ⟨by show cells + 1 ≤ 1091; omega, by show slots + 6 ≤ 11829; omega⟩ (Nat.le_of_ble_eq_true rfl) dL_law_1011 hLW.1 hLW.2.2 hS (fun H1 locs1 hP1 hk1 hS1 => ?_)
    have hLW1 := hLW.w C hP1 hk1
    have hfcx : cells + 1 ≤ room_1.cells ∧ slots + 6 ≤ room_1.slots := ⟨by show cells + 1 ≤ 1091; omega, by show slots + 6 ≤ 11829; omega⟩
    refine lv_istore (lv' := [(5, .int 1), (0, .ref b), (1, .ref (g 0)), (2, .ref (gm 0)), (3, .ref qo), (4, .int x4)]) hx hb dL_law_1014 hl (by decide) rfl (fun ls hl => ?_)
    refine lv_aload_n hx hb dL_law_1016 rfl (lv_at hl 3 rfl) ?_
    refine lv_aload_n hx hb dL_law_1017 rfl (lv_at hl 1 rfl) ?_
    refine lv_iload hx hb dL_law_1018 (lv_at hl 5 rfl) ?_
    refine lv_iconst (v := 1) hx hb dL_law_1020 (by decide) ?_
    refine lv_iadd hx hb dL_law_1021 ?_
    refine va_sld hx hb hX hbl hbA hS1 hi1 dL_law_1022 ?_
    refine lc_call (T := mT) (g := gm) (A := AM) (n := 1) (t := [.inl (xs (x4 + 1).toNatClampNeg)]) (rest := []) hx hb hml hown hts cK cN cstm cAM hl.1 (c_X6_count cM _ Sm _ rfl hsm) rfl (good_Vt kl_L_114 ki_X6_count ks_X6_count kn_X6 kc_X6_count) rfl ⟨rfl, rfl⟩ rfl rfl (by decide +kernel) ⟨by decide, by decide⟩ hfcx (Nat.le_of_ble_eq_true rfl) dL_law_1023 hLW1.2.1 hS1 (fun H2 locs2 hP2 hk2 hS2 => ?_)
    have hLW2 := hLW1.m C hP2 hk2
    refine lv_istore (lv' := [(6, .int r), (5, .int 1), (0, .ref b), (1, .ref (g 0)), (2, .ref (gm 0)), (3, .ref qo), (4, .int x4)]) hx hb dL_law_1026 hl (by decide) rfl (fun ls hl => ?_)
    refine lv_aload_n hx hb dL_law_1028 rfl (lv_at hl 4 rfl) ?_
    refine lc_call (T := mT) (g := gm) (A := AM) (n := 0) (t := []) (rest := []) hx hb hml hown hts cK cN cstm cAM hl.1 (c_X6_thrown cM _ Sm1 _ rfl hth) rfl (good_Vt kl_L_80 ki_X6_thrown ks_X6_thrown kn_X6 kc_X6_thrown) rfl ⟨rfl, rfl⟩ rfl rfl (by decide +kernel) ⟨by decide, by decide⟩ hfcx (Nat.le_of_ble_eq_true rfl) dL_law_1029 hLW2.2.1 hS2 (fun H3 locs3 hP3 hk3 hS3 => ?_)
    have hLW3 := hLW2.m C hP3 hk3
    refine lv_iload hx hb dL_law_1032 (lv_at hl 1 rfl) ?_
    refine lv_icmp_eq (tgt := 1039) hx hb dL_law_1034 (by decide) (fun _ => ?_) (fun hne => absurd rfl hne)
    refine lv_iload hx hb dL_law_1039 (lv_at hl 1 rfl) ?_
    refine lv_if_ne (tgt := 1056) hx hb dL_law_1041 (by decide) (fun _ => ?_) (fun he => absurd he (by decide))
    refine lv_goto (tgt := 1059) hx hb dL_law_1056 (by decide) ?_
    refine W.widen (k := cells + 1) (n := slots + 6) (by omega) (by omega) ?_
    exact kk S1 Sm1 _ H3 locs3 ls hrl hLW3 hS3 (lv_sub hl [2, 3, 4, 5, 6] rfl)
