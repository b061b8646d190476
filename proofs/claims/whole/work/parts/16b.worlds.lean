def mapI {α β : Type} (f : Nat → α → β) : Nat → List α → List β
  | _, [] => []
  | n, a :: t => f n a :: mapI f (n + 1) t
theorem mapI_eq {α β : Type} (f : Nat → α → β) : ∀ (l : List α) (n : Nat), mapI f n l = l.mapIdx (fun i => f (n + i)) := by
  intro l
  induction l with
  | nil => intro n; rfl
  | cons a t ih =>
    intro n
    rw [List.mapIdx_cons]
    show f n a :: mapI f (n + 1) t = _
    rw [ih (n + 1)]
    congr 2
    funext i
    rw [show n + 1 + i = n + (i + 1) by omega]
theorem mapI_0 {α β : Type} (f : Nat → α → β) (l : List α) : l.mapIdx f = mapI f 0 l := by
  rw [mapI_eq]
  congr 1
  funext i
  rw [Nat.zero_add]
set_option maxRecDepth 100000 in
theorem ww_mT (g : Nat → Nat) (cI cZ : ClassId) (S : XS) : ww mT g cI cZ S = [(g 0, .inr (6, [.int (S 0 0), .int (S 0 1), .ref (g 1), .ref (g 2), .ref (g 3), .ref (g 4), .ref (g 5), .ref (g 6), .ref (g 7), .int (S 0 9), .ref (g 8), .ref (g 9), .ref (g 10), .ref (g 11), .ref (g 12), .ref (g 13), .ref (g 14), .ref (g 15), .ref (g 16), .int (S 0 19), .int (S 0 20), .ref (g 17), .ref (g 18), .ref (g 19), .ref (g 20), .ref (g 21), .int (S 0 26), .ref (g 22), .ref (g 23), .int (S 0 29), .ref (g 24)])), (g 1, .inl (cI, 40, .inl (S 1))), (g 2, .inl (cI, 40, .inl (S 2))), (g 3, .inl (cI, 40, .inl (S 3))), (g 4, .inl (cI, 40, .inl (S 4))), (g 5, .inl (cI, 40, .inl (S 5))), (g 6, .inl (cZ, 40, .inl (S 6))), (g 7, .inl (cI, 60, .inl (S 7))), (g 8, .inl (cI, 80, .inl (S 8))), (g 9, .inl (cI, 80, .inl (S 9))), (g 10, .inl (cI, 80, .inl (S 10))), (g 11, .inl (cI, 80, .inl (S 11))), (g 12, .inl (cZ, 80, .inl (S 12))), (g 13, .inl (cZ, 80, .inl (S 13))), (g 14, .inl (cI, 80, .inl (S 14))), (g 15, .inl (cZ, 80, .inl (S 15))), (g 16, .inl (cI, 80, .inl (S 16))), (g 17, .inl (cI, 10, .inl (S 17))), (g 18, .inl (cI, 10, .inl (S 18))), (g 19, .inl (cI, 10, .inl (S 19))), (g 20, .inl (cI, 10, .inl (S 20))), (g 21, .inl (cI, 10, .inl (S 21))), (g 22, .inl (cZ, 20, .inl (S 22))), (g 23, .inl (cI, 20, .inl (S 23))), (g 24, .inl (cI, 80, .inl (S 24)))] := by
  have e1 : ww mT g cI cZ S = mapI (wce g cI cZ S) 0 mT := mapI_0 _ _
  rw [e1]
  have e2 : wce g cI cZ S = fun k w => (g k, match w with
    | .inl (z, n) => .inl (bif z then cZ else cI, n, .inl (S k))
    | .inr (ci, fds) => .inr (ci, mapI (wfd g S k) 0 fds)) := by
    funext k w
    unfold wce
    cases w with
    | inl x => rfl
    | inr x => simp only [mapI_0]
  rw [e2]
  rfl
set_option maxRecDepth 100000 in
theorem ww_xT (g : Nat → Nat) (cI cZ : ClassId) (S : XS) : ww xT g cI cZ S = [(g 0, .inr (5, [.ref (g 1), .ref (g 2), .ref (g 3), .ref (g 4), .ref (g 5), .ref (g 6), .ref (g 39), .int (S 0 7), .int (S 0 8), .int (S 0 9)])), (g 1, .inr (0, [.ref (g 7), .ref (g 8), .ref (g 9), .ref (g 10), .ref (g 11), .ref (g 12), .int (S 1 6)])), (g 2, .inr (1, [.ref (g 13)])), (g 3, .inr (2, [.ref (g 14), .ref (g 15), .ref (g 16), .ref (g 17), .ref (g 18), .ref (g 19), .ref (g 20), .ref (g 21), .ref (g 22), .ref (g 23), .ref (g 24), .int (S 3 11)])), (g 4, .inr (4, [.ref (g 25), .ref (g 26), .ref (g 27), .ref (g 28), .ref (g 29), .ref (g 30), .int (S 4 6)])), (g 5, .inr (3, [.ref (g 31), .ref (g 32), .ref (g 33), .ref (g 34), .int (S 5 4), .int (S 5 5)])), (g 6, .inr (3, [.ref (g 35), .ref (g 36), .ref (g 37), .ref (g 38), .int (S 6 4), .int (S 6 5)])), (g 7, .inl (cI, 40, .inl (S 7))), (g 8, .inl (cI, 40, .inl (S 8))), (g 9, .inl (cI, 40, .inl (S 9))), (g 10, .inl (cI, 40, .inl (S 10))), (g 11, .inl (cI, 40, .inl (S 11))), (g 12, .inl (cI, 40, .inl (S 12))), (g 13, .inl (cI, 60, .inl (S 13))), (g 14, .inl (cI, 80, .inl (S 14))), (g 15, .inl (cI, 80, .inl (S 15))), (g 16, .inl (cI, 80, .inl (S 16))), (g 17, .inl (cI, 80, .inl (S 17))), (g 18, .inl (cZ, 80, .inl (S 18))), (g 19, .inl (cI, 80, .inl (S 19))), (g 20, .inl (cI, 80, .inl (S 20))), (g 21, .inl (cI, 80, .inl (S 21))), (g 22, .inl (cI, 80, .inl (S 22))), (g 23, .inl (cZ, 80, .inl (S 23))), (g 24, .inl (cI, 80, .inl (S 24))), (g 25, .inl (cI, 10, .inl (S 25))), (g 26, .inl (cI, 10, .inl (S 26))), (g 27, .inl (cI, 10, .inl (S 27))), (g 28, .inl (cI, 10, .inl (S 28))), (g 29, .inl (cI, 10, .inl (S 29))), (g 30, .inl (cI, 10, .inl (S 30))), (g 31, .inl (cI, 170, .inl (S 31))), (g 32, .inl (cI, 170, .inl (S 32))), (g 33, .inl (cI, 170, .inl (S 33))), (g 34, .inl (cI, 10, .inl (S 34))), (g 35, .inl (cI, 170, .inl (S 35))), (g 36, .inl (cI, 170, .inl (S 36))), (g 37, .inl (cI, 170, .inl (S 37))), (g 38, .inl (cI, 10, .inl (S 38))), (g 39, .inl (cI, 80, .inl (S 39)))] := by
  have e1 : ww xT g cI cZ S = mapI (wce g cI cZ S) 0 xT := mapI_0 _ _
  rw [e1]
  have e2 : wce g cI cZ S = fun k w => (g k, match w with
    | .inl (z, n) => .inl (bif z then cZ else cI, n, .inl (S k))
    | .inr (ci, fds) => .inr (ci, mapI (wfd g S k) 0 fds)) := by
    funext k w
    unfold wce
    cases w with
    | inl x => rfl
    | inr x => simp only [mapI_0]
  rw [e2]
  rfl
