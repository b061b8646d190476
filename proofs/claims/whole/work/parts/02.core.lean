/-! A small interpreter over pictures: numbers and named cells; it is sound for the machine (xa_stp .. below). -/
abbrev AV : Type := Int32 ⊕ Nat
abbrev XS : Type := Nat → Nat → Int32
abbrev RS : Type := XS × Option (Option AV)
abbrev LV : Type := List (Nat × AV)
abbrev KT : Type := Nat → LV → List AV → XS → Option RS
abbrev BT : Type := LV → List AV → XS → Option RS
abbrev MT : Type := List AV → XS → Option RS
/-- a cell of a world: an array (of booleans?, its length) or an object (its kind, its fields: a named cell or a number) -/
abbrev WE : Type := (Bool × Nat) ⊕ (Nat × List (Option Nat))
/-- a row of code: pc, instruction, next pc, numbers (targets, or kind and slot, or which call), constant -/
abbrev CE : Type := Nat × Instr × Nat × List Nat × Int32
/-- a callee: static?, index, number of arguments with the receiver, sort of answer, the receiver's kind, what it does -/
abbrev CT : Type := Bool × Nat × Nat × Nat × Nat × MT
def up2 (S : XS) (k i : Nat) (v : Int32) : XS := fun a => if a = k then upd (S k) i v else S a
def cv (g : Nat → Nat) (v : AV) : Value := match v with
  | .inl x => .int x
  | .inr k => .ref (g k)
def wfd (g : Nat → Nat) (S : XS) (k q : Nat) (d : Option Nat) : Value := match d with
  | some j => .ref (g j)
  | none => .int (S k q)
def wce (g : Nat → Nat) (cI cZ : ClassId) (S : XS) (k : Nat) (w : WE) : Nat × va_E := (g k, match w with
  | .inl (z, n) => .inl (bif z then cZ else cI, n, .inl (S k))
  | .inr (ci, fds) => .inr (ci, fds.mapIdx (wfd g S k)))
def ww (T : List WE) (g : Nat → Nat) (cI cZ : ClassId) (S : XS) : va_W := T.mapIdx (wce g cI cZ S)
def lvc (g : Nat → Nat) (lv : LV) : List (Nat × Value) := lv.map (fun q => (q.1, cv g q.2))
def lk : LV → Nat → Option AV
  | [], _ => none
  | (j, v) :: t, i => bif Nat.beq j i then some v else lk t i
def dl : LV → Nat → LV
  | [], _ => []
  | (j, v) :: t, i => bif Nat.beq j i then dl t i else (j, v) :: dl t i
def pk : LV → List Nat → Option LV
  | _, [] => some []
  | lv, i :: t => match lk lv i with
    | none => none
    | some v => match pk lv t with
      | none => none
      | some r => some ((i, v) :: r)
def ldi (lv : LV) (i : Nat) (k : Int32 → Option RS) : Option RS := match lk lv i with
  | some (.inl x) => k x
  | _ => none
def ldr (lv : LV) (i : Nat) (k : Nat → Option RS) : Option RS := match lk lv i with
  | some (.inr o) => k o
  | _ => none
def pi1 (st : List AV) (k : Int32 → List AV → Option RS) : Option RS := match st with
  | .inl x :: r => k x r
  | _ => none
def pr1 (st : List AV) (k : Nat → List AV → Option RS) : Option RS := match st with
  | .inr o :: r => k o r
  | _ => none
def brc (cd : Jvm.ClassFile.Cond) (x y : Int32) (a b : Option RS) : Option RS := match cd with
  | .eq => if x = y then a else b
  | .ne => if x = y then b else a
  | .lt => if x < y then a else b
  | .ge => if y ≤ x then a else b
  | .gt => if y < x then a else b
  | .le => if x ≤ y then a else b
def gf (T : List WE) (o ci q : Nat) (S : XS) (k : AV → Option RS) : Option RS := match T[o]? with
  | some (.inr (c, fds)) => bif Nat.beq c ci then (match fds[q]? with
    | some (some j) => k (.inr j)
    | some none => k (.inl (S o q))
    | none => none) else none
  | _ => none
/-- a field of a number is written; zb: it is a boolean -/
def pf (T : List WE) (o ci q zb : Nat) (x : Int32) (k : Option RS) : Option RS := match T[o]? with
  | some (.inr (c, fds)) => bif Nat.beq c ci then (match fds[q]? with
    | some none => bif Nat.beq zb 0 then k else (if x = 0 ∨ x = 1 then k else none)
    | _ => none) else none
  | _ => none
def gd (c : Prop) [Decidable c] (k : Option RS) : Option RS := if c then k else none
/-- the place i of an array of n -/
def inA (i : Int32) (n : Nat) : Prop := 0 ≤ i.toInt ∧ i.toInt < (n : Int)
def gA (i : Int32) (n : Nat) (k : Option RS) : Option RS := if 0 ≤ i.toInt ∧ i.toInt < (n : Int) then k else none
/-- the static tables: the most that a setting may be (cell 40), what it is at first (cell 41) -/
def mostf (j : Nat) : Int32 := [9, 3, 1, 20, 1, 1].getD j 0
def firstf (j : Nat) : Int32 := [0, 1, 0, 2, 0, 0].getD j 0
def al (T : List WE) (o : Nat) (z : Bool) (i : Int32) (S : XS) (k : Int32 → Option RS) : Option RS := match T[o]? with
  | some (.inl (z', n)) => bif z' == z then gA i n (k (S o i.toNatClampNeg)) else none
  | some (.inr _) => none
  | none => bif Nat.beq o 40 && !z then gA i 6 (k (mostf i.toNatClampNeg)) else bif Nat.beq o 41 && !z then gA i 6 (k (firstf i.toNatClampNeg)) else none
def ast (T : List WE) (o : Nat) (z : Bool) (i : Int32) (k : Option RS) : Option RS := match T[o]? with
  | some (.inl (z', n)) => bif z' == z then gA i n k else none
  | _ => none
def tsw (x : Int32) (lo : Int) (ts : List Nat) (d : Nat) (k : Nat → Option RS) : Option RS := match ts with
  | [] => k d
  | t :: ts => if x.toInt = lo then k t else tsw x (lo + 1) ts d k
def clv (o : Option RS) (k : XS → Option RS) : Option RS := match o with
  | some (S1, some none) => k S1
  | some (S1, none) => some (S1, none)
  | _ => none
def cli (o : Option RS) (k : XS → Int32 → Option RS) : Option RS := match o with
  | some (S1, some (some (.inl x))) => k S1 x
  | some (S1, none) => some (S1, none)
  | _ => none
def clr (o : Option RS) (k5 k6 : XS → Option RS) : Option RS := match o with
  | some (S1, some (some (.inr a))) => bif Nat.beq a 5 then k5 S1 else bif Nat.beq a 6 then k6 S1 else none
  | some (S1, none) => some (S1, none)
  | _ => none
def crk (rk : Nat) (o : Option RS) (r : List AV) (k : List AV → XS → Option RS) : Option RS := match rk with
  | 0 => clv o (fun S1 => k r S1)
  | 1 => cli o (fun S1 x => k (.inl x :: r) S1)
  | _ => clr o (fun S1 => k (.inr 5 :: r) S1) (fun S1 => k (.inr 6 :: r) S1)
def rcv (T : List WE) (ci : Nat) (As : List AV) : Bool := match As with
  | .inr o :: _ => (match T[o]? with
    | some (.inr (c, _)) => Nat.beq c ci
    | _ => false)
  | _ => false
def cal (T : List WE) (cs : List CT) (sta : Bool) (idx j : Nat) (st : List AV) (S : XS) (k : List AV → XS → Option RS) : Option RS := match cs[j]? with
  | none => none
  | some (sta', idx', n, rk, ci, sem) => bif (sta == sta' && Nat.beq idx idx' && Nat.ble n st.length && Nat.ble (st.length - n) 8 && (sta || rcv T ci (st.take n).reverse)) then crk rk (sem (st.take n).reverse S) (st.drop n) k else none
def reti (zb : Nat) (st : List AV) (S : XS) : Option RS := match st with
  | [.inl x] => bif Nat.beq zb 0 then some (S, some (some (.inl x))) else (if x = 0 ∨ x = 1 then some (S, some (some (.inl x))) else none)
  | _ => none
def retr (st : List AV) (S : XS) : Option RS := match st with
  | [.inr o] => some (S, some (some (.inr o)))
  | _ => none
def retv (st : List AV) (S : XS) : Option RS := match st with
  | [] => some (S, some none)
  | _ => none
/-- one instruction -/
def stp (T : List WE) (cs : List CT) (i : Instr) (np : Nat) (ns : List Nat) (v : Int32) (lv : LV) (st : List AV) (S : XS) (K : KT) : Option RS := match i with
  | .iconst _ => K np lv (.inl v :: st) S
  | .bipush _ => K np lv (.inl v :: st) S
  | .sipush _ => K np lv (.inl v :: st) S
  | .ldc _ => K np lv (.inl v :: st) S
  | .ldc_w _ => K np lv (.inl v :: st) S
  | .iload_n n => ldi lv n (fun x => K np lv (.inl x :: st) S)
  | .iload n => ldi lv n (fun x => K np lv (.inl x :: st) S)
  | .aload_n n => ldr lv n (fun o => K np lv (.inr o :: st) S)
  | .aload n => ldr lv n (fun o => K np lv (.inr o :: st) S)
  | .istore_n n => pi1 st (fun x r => K np ((n.val, .inl x) :: dl lv n) r S)
  | .istore n => pi1 st (fun x r => K np ((n, .inl x) :: dl lv n) r S)
  | .astore_n n => pr1 st (fun o r => K np ((n.val, .inr o) :: dl lv n) r S)
  | .astore n => pr1 st (fun o r => K np ((n, .inr o) :: dl lv n) r S)
  | .iinc n _ => ldi lv n (fun x => K np ((n, .inl (x + v)) :: dl lv n) st S)
  | .iadd => pi1 st (fun y r => pi1 r (fun x r => K np lv (.inl (x + y) :: r) S))
  | .isub => pi1 st (fun y r => pi1 r (fun x r => K np lv (.inl (x - y) :: r) S))
  | .imul => pi1 st (fun y r => pi1 r (fun x r => K np lv (.inl (x * y) :: r) S))
  | .iand => pi1 st (fun y r => pi1 r (fun x r => K np lv (.inl (x &&& y) :: r) S))
  | .ior => pi1 st (fun y r => pi1 r (fun x r => K np lv (.inl (x ||| y) :: r) S))
  | .idiv => pi1 st (fun y r => pi1 r (fun x r => if y = 0 then none else K np lv (.inl (x / y) :: r) S))
  | .ineg => pi1 st (fun x r => K np lv (.inl (-x) :: r) S)
  | .ifCond cd _ => pi1 st (fun x r => brc cd x 0 (K (ns.headD 0) lv r S) (K np lv r S))
  | .if_icmp cd _ => pi1 st (fun y r => pi1 r (fun x r => brc cd x y (K (ns.headD 0) lv r S) (K np lv r S)))
  | .goto _ => K (ns.headD 0) lv st S
  | .tableswitch _ lo _ _ => pi1 st (fun x r => tsw x lo ns.tail (ns.headD 0) (fun t => K t lv r S))
  | .dup => (match st with
    | v :: r => K np lv (v :: v :: r) S
    | [] => none)
  | .dup2 => (match st with
    | v :: w :: r => K np lv (v :: w :: v :: w :: r) S
    | _ => none)
  | .getstatic _ => K np lv (.inr (ns.headD 0) :: st) S
  | .getfield _ => pr1 st (fun o r => gf T o (ns.headD 0) (ns.getD 1 0) S (fun x => K np lv (x :: r) S))
  | .putfield _ => pi1 st (fun x r => pr1 r (fun o r => pf T o (ns.headD 0) (ns.getD 1 0) (ns.getD 2 0) x (K np lv r (up2 S o (ns.getD 1 0) x))))
  | .iaload => pi1 st (fun i r => pr1 r (fun o r => al T o false i S (fun x => K np lv (.inl x :: r) S)))
  | .baload => pi1 st (fun i r => pr1 r (fun o r => al T o true i S (fun x => K np lv (.inl x :: r) S)))
  | .iastore => pi1 st (fun x r => pi1 r (fun i r => pr1 r (fun o r => ast T o false i (K np lv r (up2 S o i.toNatClampNeg x)))))
  | .bastore => pi1 st (fun x r => pi1 r (fun i r => pr1 r (fun o r => ast T o true i (K np lv r (up2 S o i.toNatClampNeg (vp_nar .boolean x))))))
  | .invokevirtual idx => cal T cs false idx (ns.headD 0) st S (fun r S1 => K np lv r S1)
  | .invokestatic idx => cal T cs true idx (ns.headD 0) st S (fun r S1 => K np lv r S1)
  | .ireturn => reti (ns.headD 0) st S
  | .areturn => retr st S
  | .return_ => retv st S
  | _ => none
def fnd : List CE → Nat → Option (CE × List CE)
  | [], _ => none
  | q :: t, pc => bif Nat.beq q.1 pc then some (q, t) else fnd t pc
/-- the row at pc, and those behind it: most often the first of those at hand -/
def nxt (L suf : List CE) (pc : Nat) : Option (CE × List CE) := match suf with
  | [] => fnd L pc
  | q :: t => bif Nat.beq q.1 pc then some (q, t) else fnd L pc
def mem1 : List Nat → Nat → Bool
  | [], _ => false
  | q :: t, pc => bif Nat.beq q pc then true else mem1 t pc
/-- runs until it comes to one of the stops -/
def brn (T : List WE) (cs : List CT) (L : List CE) (ss : List Nat) (K : KT) : Nat → List CE → KT
  | 0 => fun _ _ _ _ _ => none
  | n + 1 => fun suf pc lv st S => match nxt L suf pc with
    | none => none
    | some ((_, i, np, ns, v), t) => stp T cs i np ns v lv st S (fun pc lv st S => bif mem1 ss pc then K pc lv st S else brn T cs L ss K n t pc lv st S)
/-- which block stands at a stop: its pc, its locals, itself -/
def dsp : List (Nat × List Nat × BT) → KT
  | [], _, _, _, _ => none
  | (q, live, f) :: t, pc, lv, st, S => bif Nat.beq q pc then (match pk lv live with
    | some lv' => f lv' st S
    | none => none) else dsp t pc lv st S
def zipN : Nat → List AV → LV
  | _, [] => []
  | n, v :: t => (n, v) :: zipN (n + 1) t
/-- what a row of code must be -/
def opk (nL zb : Nat) (q : CE) : Bool := match q with
  | (pc, i, _, ns, v) => match i with
    | .iconst n => decide (Int32.ofInt n = v)
    | .bipush n => decide ((Int8.ofInt n).toInt32 = v)
    | .sipush n => decide ((Int16.ofInt n).toInt32 = v)
    | .ireturn => decide (ns.headD 0 = zb) && decide (zb ≤ 1)
    | .return_ => decide (zb = 2)
    | .areturn => decide (zb = 3)
    | .istore_n n => decide (n.val < nL)
    | .istore n => decide (n < nL)
    | .astore_n n => decide (n.val < nL)
    | .astore n => decide (n < nL)
    | .iinc n c => decide (Int32.ofInt c = v) && decide (n < nL)
    | .ifCond _ o => decide ((pc : Int) + o = ((ns.headD 0 : Nat) : Int))
    | .if_icmp _ o => decide ((pc : Int) + o = ((ns.headD 0 : Nat) : Int))
    | .goto o => decide ((pc : Int) + o = ((ns.headD 0 : Nat) : Int))
    | .tableswitch d lo hi os => decide ((pc : Int) + d = ((ns.headD 0 : Nat) : Int)) && decide (hi = lo + os.size - 1) && decide (os.toList.map (fun o => (pc : Int) + o) = ns.tail.map (fun (t : Nat) => (t : Int)))
    | _ => true
def ntab (i : Instr) : Bool := match i with
  | .tableswitch _ _ _ _ => false
  | _ => true
def ilen (i : Instr) : Nat := match i with
  | .bipush _ => 2
  | .sipush _ => 3
  | .ldc _ => 2
  | .ldc_w _ => 3
  | .iload _ => 2
  | .aload _ => 2
  | .istore _ => 2
  | .astore _ => 2
  | .iinc _ _ => 3
  | .ifCond _ _ => 3
  | .if_icmp _ _ => 3
  | .goto _ => 3
  | .getfield _ => 3
  | .putfield _ => 3
  | .getstatic _ => 3
  | .invokevirtual _ => 3
  | .invokestatic _ => 3
  | _ => 1
/-- a row's links stand in the lists of its own kind's: fields read, fields written, constants -/
def fck (ft : List (Nat × Nat × Nat)) (pt : List (Nat × Nat × Nat × Nat)) (kt : List (Nat × Int32)) (q : CE) : Bool := match q with
  | (_, i, _, ns, v) => match i with
    | .getfield k => decide ((k, ns.headD 0, ns.getD 1 0) ∈ ft) && decide (ns.headD 0 ≠ 9)
    | .putfield k => decide ((k, ns.headD 0, ns.getD 1 0, ns.getD 2 0) ∈ pt)
    | .ldc k => decide ((k, v) ∈ kt)
    | .ldc_w k => decide ((k, v) ∈ kt)
    | .getstatic k => decide ((k, 9, ns.headD 0) ∈ ft)
    | _ => true
/-- a row of code is what the bytes say -/
def rok (cc : ByteArray) (nL zb : Nat) (q : CE) : Bool := decide (decode cc q.1 = .ok (q.2.1, q.2.2.1 - q.1)) && (!ntab q.2.1 || decide (q.2.2.1 = q.1 + ilen q.2.1)) && opk nL zb q
theorem up2_eq {S : XS} {k i : Nat} {v : Int32} : up2 S k i v k = upd (S k) i v := by simp [up2]
theorem up2_ne {S : XS} {k i j : Nat} {v : Int32} (h : j ≠ k) : up2 S k i v j = S j := by simp [up2, h]
theorem wce_ne {g : Nat → Nat} {cI cZ : ClassId} {S : XS} {k i j : Nat} {v : Int32} (h : j ≠ k) (w : WE) : wce g cI cZ (up2 S k i v) j w = wce g cI cZ S j w := by
  have hw : wfd g (up2 S k i v) j = wfd g S j := by
    funext q d
    unfold wfd
    rw [up2_ne h]
  unfold wce
  rw [hw, up2_ne h]
theorem ww_get {T : List WE} {g : Nat → Nat} {cI cZ : ClassId} {S : XS} {k : Nat} {w : WE} (h : T[k]? = some w) : (ww T g cI cZ S)[k]? = some (wce g cI cZ S k w) := by
  unfold ww
  rw [List.getElem?_mapIdx, h]
  rfl
theorem ww_set {T : List WE} {g : Nat → Nat} {cI cZ : ClassId} {S : XS} {k i : Nat} {v : Int32} {w : WE} {x : Nat × va_E} (h : T[k]? = some w) (hx : x = wce g cI cZ (up2 S k i v) k w) : (ww T g cI cZ S).set k x = ww T g cI cZ (up2 S k i v) := by
  apply List.ext_getElem?
  intro j
  unfold ww
  rw [List.getElem?_set, List.getElem?_mapIdx, List.getElem?_mapIdx]
  have hk : k < T.length := (List.getElem?_eq_some_iff.mp h).1
  by_cases e : k = j
  · subst e
    rw [if_pos rfl, h, List.length_mapIdx, if_pos hk, hx]
    rfl
  · rw [if_neg e]
    cases T[j]? with
    | none => rfl
    | some w2 => exact congrArg some (wce_ne (fun q => e q.symm) w2).symm
theorem lk_at {ls : Array Slot} {nL : Nat} {g : Nat → Nat} {lv : LV} {i : Nat} {v : AV} (h : lv_has ls nL (lvc g lv)) (hk : lk lv i = some v) : ls[i]? = some (.val (cv g v)) := by
  obtain ⟨-, -, h⟩ := h
  induction lv with
  | nil => cases hk
  | cons q t ih =>
    obtain ⟨j, w⟩ := q
    unfold lk at hk
    cases e : Nat.beq j i with
    | true =>
      rw [e] at hk
      cases Option.some.inj hk
      cases Nat.eq_of_beq_eq_true e
      exact h _ List.mem_cons_self
    | false =>
      rw [e] at hk
      exact ih hk (fun q hq => h q (List.mem_cons_of_mem _ hq))
theorem dl_sub {lv : LV} {i : Nat} : ∀ q ∈ dl lv i, q ∈ lv ∧ q.1 ≠ i := by
  induction lv with
  | nil => intro q h; cases h
  | cons w t ih =>
    obtain ⟨j, v⟩ := w
    intro q h
    unfold dl at h
    cases e : Nat.beq j i with
    | true =>
      rw [e] at h
      exact ⟨List.mem_cons_of_mem _ (ih q h).1, (ih q h).2⟩
    | false =>
      rw [e] at h
      rcases List.mem_cons.mp h with h | h
      · subst h
        exact ⟨List.mem_cons_self, Nat.ne_of_beq_eq_false e⟩
      · exact ⟨List.mem_cons_of_mem _ (ih q h).1, (ih q h).2⟩
theorem cv_cat (g : Nat → Nat) (v : AV) : (cv g v).category = 1 := by
  cases v <;> rfl
theorem lv_dl {ls : Array Slot} {nL i : Nat} {g : Nat → Nat} {lv : LV} {v : AV} {lv' : List (Nat × Value)} (hl : (i, cv g v) :: (lvc g lv).filter (fun q => !(q.1 == i) && !(q.1 + 1 == i && q.2.category == 2)) = lv') (h : lv_has ls nL lv') : lv_has ls nL (lvc g ((i, v) :: dl lv i)) := by
  refine ⟨h.1, h.2.1, fun q hq => h.2.2 q ?_⟩
  rw [← hl]
  rcases List.mem_cons.mp hq with e | e
  · rw [e]; exact List.mem_cons_self
  · refine List.mem_cons_of_mem _ (List.mem_filter.mpr ?_)
    obtain ⟨w, hw, rfl⟩ := List.mem_map.mp e
    obtain ⟨h1, h2⟩ := dl_sub w hw
    refine ⟨List.mem_map.mpr ⟨w, h1, rfl⟩, ?_⟩
    simp [cv_cat, h2]
theorem pk_has {ls : Array Slot} {nL : Nat} {g : Nat → Nat} {lv : LV} (h : lv_has ls nL (lvc g lv)) : ∀ (live : List Nat) (lv' : LV), pk lv live = some lv' → lv_has ls nL (lvc g lv') := by
  intro live
  induction live with
  | nil =>
    intro lv' e
    unfold pk at e
    cases Option.some.inj e
    exact ⟨h.1, h.2.1, fun q hq => nomatch hq⟩
  | cons i t ih =>
    intro lv' e
    unfold pk at e
    cases e1 : lk lv i with
    | none => rw [e1] at e; cases e
    | some v =>
      rw [e1] at e
      dsimp only at e
      cases e2 : pk lv t with
      | none => rw [e2] at e; cases e
      | some r =>
        rw [e2] at e
        cases Option.some.inj e
        refine ⟨h.1, h.2.1, fun q hq => ?_⟩
        rcases List.mem_cons.mp hq with e3 | e3
        · rw [e3]; exact lk_at h e1
        · exact (ih r e2).2.2 q e3
theorem fnd_mem {L : List CE} {pc : Nat} {q : CE} {t : List CE} (h : fnd L pc = some (q, t)) : q ∈ L ∧ q.1 = pc ∧ ∀ z ∈ t, z ∈ L := by
  induction L with
  | nil => cases h
  | cons w u ih =>
    unfold fnd at h
    cases e : Nat.beq w.1 pc with
    | true =>
      rw [e] at h
      cases Option.some.inj h
      exact ⟨List.mem_cons_self, Nat.eq_of_beq_eq_true e, fun z hz => List.mem_cons_of_mem _ hz⟩
    | false =>
      rw [e] at h
      exact ⟨List.mem_cons_of_mem _ (ih h).1, (ih h).2.1, fun z hz => List.mem_cons_of_mem _ ((ih h).2.2 z hz)⟩
theorem nxt_mem {L suf : List CE} {pc : Nat} {q : CE} {t : List CE} (hs : ∀ z ∈ suf, z ∈ L) (h : nxt L suf pc = some (q, t)) : q ∈ L ∧ q.1 = pc ∧ ∀ z ∈ t, z ∈ L := by
  unfold nxt at h
  split at h
  · exact fnd_mem h
  · rename_i w u
    cases e : Nat.beq w.1 pc with
    | true =>
      rw [e] at h
      cases Option.some.inj h
      exact ⟨hs _ List.mem_cons_self, Nat.eq_of_beq_eq_true e, fun z hz => hs z (List.mem_cons_of_mem _ hz)⟩
    | false =>
      rw [e] at h
      exact fnd_mem h
theorem ldi_some {lv : LV} {i : Nat} {k : Int32 → Option RS} {R : RS} (h : ldi lv i k = some R) : ∃ x, lk lv i = some (.inl x) ∧ k x = some R := by
  unfold ldi at h
  split at h
  · exact ⟨_, by assumption, h⟩
  · cases h
theorem ldr_some {lv : LV} {i : Nat} {k : Nat → Option RS} {R : RS} (h : ldr lv i k = some R) : ∃ o, lk lv i = some (.inr o) ∧ k o = some R := by
  unfold ldr at h
  split at h
  · exact ⟨_, by assumption, h⟩
  · cases h
theorem pi1_some {st : List AV} {k : Int32 → List AV → Option RS} {R : RS} (h : pi1 st k = some R) : ∃ x r, st = .inl x :: r ∧ k x r = some R := by
  unfold pi1 at h
  split at h
  · exact ⟨_, _, rfl, h⟩
  · cases h
theorem pr1_some {st : List AV} {k : Nat → List AV → Option RS} {R : RS} (h : pr1 st k = some R) : ∃ o r, st = .inr o :: r ∧ k o r = some R := by
  unfold pr1 at h
  split at h
  · exact ⟨_, _, rfl, h⟩
  · cases h
theorem gA_some {i : Int32} {n : Nat} {k : Option RS} {R : RS} (h : gA i n k = some R) : vp_in i n ∧ k = some R := by
  unfold gA at h
  split at h
  · exact ⟨vp_in_iff.mpr (by assumption), h⟩
  · cases h
theorem al_some {T : List WE} {o : Nat} {z : Bool} {i : Int32} {S : XS} {k : Int32 → Option RS} {R : RS} (h : al T o z i S k = some R) : (∃ n, T[o]? = some (.inl (z, n)) ∧ vp_in i n ∧ k (S o i.toNatClampNeg) = some R) ∨ (o = 40 ∧ z = false ∧ vp_in i 6 ∧ k (mostf i.toNatClampNeg) = some R) ∨ (o = 41 ∧ z = false ∧ vp_in i 6 ∧ k (firstf i.toNatClampNeg) = some R) := by
  unfold al at h
  split at h
  · rename_i z' n e
    cases hz : z' == z with
    | true =>
      rw [hz] at h
      cases (beq_iff_eq.mp hz)
      exact Or.inl ⟨n, e, gA_some h⟩
    | false => rw [hz] at h; cases h
  · cases h
  · cases z with
    | true => cases h40 : Nat.beq o 40 <;> cases h41 : Nat.beq o 41 <;> (rw [h40, h41] at h; cases h)
    | false =>
      cases h40 : Nat.beq o 40 with
      | true =>
        rw [h40] at h
        exact Or.inr (Or.inl ⟨Nat.eq_of_beq_eq_true h40, rfl, gA_some h⟩)
      | false =>
        rw [h40] at h
        cases h41 : Nat.beq o 41 with
        | true =>
          rw [h41] at h
          exact Or.inr (Or.inr ⟨Nat.eq_of_beq_eq_true h41, rfl, gA_some h⟩)
        | false => rw [h41] at h; cases h
theorem ast_some {T : List WE} {o : Nat} {z : Bool} {i : Int32} {k : Option RS} {R : RS} (h : ast T o z i k = some R) : ∃ n, T[o]? = some (.inl (z, n)) ∧ vp_in i n ∧ k = some R := by
  unfold ast at h
  split at h
  · rename_i z' n e
    cases hz : z' == z with
    | true =>
      rw [hz] at h
      cases (beq_iff_eq.mp hz)
      exact ⟨n, e, gA_some h⟩
    | false => rw [hz] at h; cases h
  · cases h
def fdv (S : XS) (k q : Nat) (d : Option Nat) : AV := match d with
  | some j => .inr j
  | none => .inl (S k q)
theorem gf_some {T : List WE} {o ci q : Nat} {S : XS} {k : AV → Option RS} {R : RS} (h : gf T o ci q S k = some R) : ∃ fds d, T[o]? = some (.inr (ci, fds)) ∧ fds[q]? = some d ∧ k (fdv S o q d) = some R := by
  unfold gf at h
  split at h
  · rename_i c fds e
    cases hz : Nat.beq c ci with
    | true =>
      rw [hz] at h
      cases Nat.eq_of_beq_eq_true hz
      dsimp only [cond_true] at h
      split at h
      · exact ⟨fds, some _, e, by assumption, h⟩
      · exact ⟨fds, none, e, by assumption, h⟩
      · cases h
    | false => rw [hz] at h; cases h
  · cases h
theorem pf_some {T : List WE} {o ci q zb : Nat} {x : Int32} {k : Option RS} {R : RS} (h : pf T o ci q zb x k = some R) : ∃ fds, T[o]? = some (.inr (ci, fds)) ∧ fds[q]? = some none ∧ (zb = 0 ∨ x = 0 ∨ x = 1) ∧ k = some R := by
  unfold pf at h
  split at h
  · rename_i c fds e
    cases hz : Nat.beq c ci with
    | true =>
      rw [hz] at h
      cases Nat.eq_of_beq_eq_true hz
      dsimp only [cond_true] at h
      split at h
      · rename_i e2
        cases hb : Nat.beq zb 0 with
        | true =>
          rw [hb] at h
          exact ⟨fds, e, e2, Or.inl (Nat.eq_of_beq_eq_true hb), h⟩
        | false =>
          rw [hb] at h
          dsimp only [cond_false] at h
          split at h
          · exact ⟨fds, e, e2, Or.inr (by assumption), h⟩
          · cases h
      · cases h
    | false => rw [hz] at h; cases h
  · cases h
theorem crk_some {rk : Nat} {o : Option RS} {r : List AV} {k : List AV → XS → Option RS} {R : RS} (h : crk rk o r k = some R) : ∃ q, o = some q ∧ (match q.2 with
    | none => R = (q.1, none)
    | some v => k (v.toList ++ r) q.1 = some R) := by
  unfold crk at h
  split at h
  · unfold clv at h
    split at h
    · exact ⟨_, rfl, h⟩
    · exact ⟨_, rfl, (Option.some.inj h).symm⟩
    · cases h
  · unfold cli at h
    split at h
    · exact ⟨_, rfl, h⟩
    · exact ⟨_, rfl, (Option.some.inj h).symm⟩
    · cases h
  · unfold clr at h
    split at h
    · rename_i S1 a
      cases e5 : Nat.beq a 5 with
      | true =>
        rw [e5] at h
        cases Nat.eq_of_beq_eq_true e5
        exact ⟨_, rfl, h⟩
      | false =>
        rw [e5] at h
        dsimp only [cond_false] at h
        cases e6 : Nat.beq a 6 with
        | true =>
          rw [e6] at h
          cases Nat.eq_of_beq_eq_true e6
          exact ⟨_, rfl, h⟩
        | false => rw [e6] at h; cases h
    · exact ⟨_, rfl, (Option.some.inj h).symm⟩
    · cases h
theorem rcv_some {T : List WE} {ci : Nat} {As : List AV} (h : rcv T ci As = true) : ∃ o fds t, As = .inr o :: t ∧ T[o]? = some (.inr (ci, fds)) := by
  unfold rcv at h
  split at h
  · split at h
    · rename_i e
      cases Nat.eq_of_beq_eq_true h
      exact ⟨_, _, _, rfl, e⟩
    · cases h
  · cases h
theorem cal_some {T : List WE} {cs : List CT} {sta : Bool} {idx j : Nat} {st : List AV} {S : XS} {k : List AV → XS → Option RS} {R : RS} (h : cal T cs sta idx j st S k = some R) : ∃ n rk ci sem, cs[j]? = some (sta, idx, n, rk, ci, sem) ∧ n ≤ st.length ∧ st.length - n ≤ 8 ∧ (sta = true ∨ rcv T ci (st.take n).reverse = true) ∧ crk rk (sem (st.take n).reverse S) (st.drop n) k = some R := by
  unfold cal at h
  split at h
  · cases h
  · rename_i sta' idx' n rk ci sem e
    cases hc : (sta == sta' && Nat.beq idx idx' && Nat.ble n st.length && Nat.ble (st.length - n) 8 && (sta || rcv T ci (st.take n).reverse)) with
    | false => rw [hc] at h; cases h
    | true =>
      rw [hc] at h
      simp only [Bool.and_eq_true, beq_iff_eq, Bool.or_eq_true] at hc
      obtain ⟨⟨⟨⟨h1, h2⟩, h3⟩, h4⟩, h5⟩ := hc
      cases h1
      cases Nat.eq_of_beq_eq_true h2
      exact ⟨n, rk, ci, sem, e, Nat.le_of_ble_eq_true h3, Nat.le_of_ble_eq_true h4, h5, h⟩
theorem tsw_some {x : Int32} {d : Nat} {k : Nat → Option RS} {R : RS} : ∀ (ts : List Nat) (lo : Int), tsw x lo ts d k = some R → (∃ (i : Nat) (t : Nat), ts[i]? = some t ∧ x.toInt = lo + i ∧ k t = some R) ∨ ((x.toInt < lo ∨ lo + ts.length ≤ x.toInt) ∧ k d = some R) := by
  intro ts
  induction ts with
  | nil =>
    intro lo h
    refine Or.inr ⟨?_, h⟩
    simp only [List.length_nil]
    omega
  | cons t ts ih =>
    intro lo h
    unfold tsw at h
    split at h
    · exact Or.inl ⟨0, t, rfl, by omega, h⟩
    · rename_i hne
      rcases ih (lo + 1) h with ⟨i, t', h1, h2, h3⟩ | ⟨h1, h2⟩
      · exact Or.inl ⟨i + 1, t', h1, by omega, h3⟩
      · refine Or.inr ⟨?_, h2⟩
        simp only [List.length_cons]
        omega
