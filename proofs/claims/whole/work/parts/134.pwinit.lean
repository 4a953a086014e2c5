def fixB (k : Nat) : Bool := decide (k < 39) && (!(k == 0) && (!(k == 1) && (!(k == 3) && (!(k == 5) && !(k == 9)))))
/-- the store behind both constructors -/
def S_init (A : Nat → Nat) (z : Nat) : St := ((fun k _ f => if k = 2 ∧ f = 2 then 1 else if k = 8 ∧ f = 17 then -1 else 0), (fun _ _ _ => 0), (fun _ _ _ => none), (fun k _ => A k), (fun k => if k = 99 then z else if fixB k = true then 1 else 0))
def posL : List Nat := [99, 99, 5, 99, 4, 99, 7, 0, 11, 99, 1, 2, 3, 6, 8, 9, 10, 12, 13, 14, 15, 16, 17, 18, 19, 20, 21, 22, 23, 24, 25, 26, 27, 28, 29, 30, 31, 32, 33]
theorem posL_inj : ∀ k, k < 39 → ∀ k2, k2 < 39 → fixB k = true → fixB k2 = true → posL.getD k 0 = posL.getD k2 0 → k = k2 := by decide +kernel
theorem fixB_iff {k : Nat} : fixB k = true ↔ pwFix k := by unfold fixB pwFix; simp
set_option maxRecDepth 100000 in
set_option maxHeartbeats 8000000 in
theorem PW_cells {dC : Nat → ClassId} {dI : Nat → Nat → Nat} {bs z : Nat} {es : Nat → Nat} {s : State} {H : Heap} {q0 a0 a1 a2 a3 a4 a5 a6 a7 a8 a9 q8 b0 b1 b2 b3 b4 b5 b6 b7 b8 b9 b10 b11 b12 b13 b14 b15 b16 b17 b18 b19 b20 b21 : Nat} {ac0 ac1 ac2 ac3 ac4 ac5 ac6 bc0 bc1 bc2 bc3 bc4 bc5 bc6 bc7 bc8 bc9 bc10 bc11 bc12 bc13 bc14 bc15 bc16 bc17 bc18 bc19 bc20 bc21 cz : ClassId} (hP : va_P (dC, dI) vwCl [(q0, .inr (7, [.ref a0, .ref a1, .ref a2, .ref a3, .ref a4, .ref a6, .int 0, .int 0, .int 0, .long 0, .int 0])), (a0, .inl (ac0, (60, .inr (.inr (.inr (.inr (fun _ => none))))))), (a1, .inl (ac1, (30, .inr (.inr (.inr (.inr (fun _ => none))))))), (a2, .inl (ac2, (18, .inr (.inr (.inr (.inr (fun _ => none))))))), (a3, .inr (4, [.null, .long 0, .long 0, .long 0, .long 0, .int 0])), (a4, .inr (2, [.ref a5, .int 0, .int 1])), (a5, .inl (ac3, (240, .inr (.inr (.inr (.inr (fun _ => none))))))), (a6, .inr (6, [.ref a7, .ref a8, .ref a9, .int 0, .int 0, .long 0])), (a7, .inl (ac4, (18, .inr (.inr (.inr (.inr (fun _ => none))))))), (a8, .inl (ac5, (19, .inr (.inl (fun _ => 0))))), (a9, .inl (ac6, (30, .inr (.inl (fun _ => 0))))), (q8, .inr (8, [.int 0, .ref b0, .ref b1, .ref b2, .ref b3, .ref b4, .ref b5, .ref b6, .ref b7, .ref b8, .ref b9, .ref b10, .int 0, .ref b11, .ref b12, .ref b13, .long 0, .int (-1), .long 0, .long 0, .long 0, .long 0, .int 0, .int 0, .ref b14, .ref b15, .ref b16, .int 0, .long 0, .int 0, .int 0, .ref b17, .ref b18, .ref b19, .ref b20, .ref b21])), (b0, .inl (bc0, (60, .inl (fun _ => 0)))), (b1, .inl (bc1, (60, .inr (.inl (fun _ => 0))))), (b2, .inl (bc2, (60, .inr (.inl (fun _ => 0))))), (b3, .inl (bc3, (60, .inl (fun _ => 0)))), (b4, .inl (bc4, (60, .inl (fun _ => 0)))), (b5, .inl (bc5, (60, .inr (.inl (fun _ => 0))))), (b6, .inl (bc6, (60, .inl (fun _ => 0)))), (b7, .inl (bc7, (60, .inl (fun _ => 0)))), (b8, .inl (bc8, (60, .inl (fun _ => 0)))), (b9, .inl (bc9, (60, .inr (.inl (fun _ => 0))))), (b10, .inl (bc10, (60, .inl (fun _ => 0)))), (b11, .inl (bc11, (30, .inr (.inl (fun _ => 0))))), (b12, .inl (bc12, (30, .inr (.inl (fun _ => 0))))), (b13, .inl (bc13, (30, .inr (.inl (fun _ => 0))))), (b14, .inl (bc14, (18, .inl (fun _ => 0)))), (b15, .inl (bc15, (18, .inr (.inl (fun _ => 0))))), (b16, .inl (bc16, (18, .inr (.inl (fun _ => 0))))), (b17, .inl (bc17, (1024, .inl (fun _ => 0)))), (b18, .inl (bc18, (1024, .inl (fun _ => 0)))), (b19, .inl (bc19, (1024, .inl (fun _ => 0)))), (b20, .inl (bc20, (1024, .inr (.inl (fun _ => 0))))), (b21, .inl (bc21, (1024, .inl (fun _ => 0))))] H) (hK : va_K (dC, dI) vwCl [(ac0, .object "ClockAuctions$Lot"), (ac1, .object "ClockAuctions$Buyer"), (ac2, .object "ClockAuctions$Bid"), (ac3, .object "ClockAuctions$Entry"), (ac4, .object "ClockAuctions$Bid"), (ac5, .long), (ac6, .long), (bc0, .int), (bc1, .long), (bc2, .long), (bc3, .int), (bc4, .int), (bc5, .long), (bc6, .boolean), (bc7, .boolean), (bc8, .boolean), (bc9, .long), (bc10, .int), (bc11, .long), (bc12, .long), (bc13, .long), (bc14, .int), (bc15, .long), (bc16, .long), (bc17, .int), (bc18, .int), (bc19, .int), (bc20, .long), (bc21, .int)] s) (hD : va_D (fun q => bs ≤ q) [(q0, .inr (7, [.ref a0, .ref a1, .ref a2, .ref a3, .ref a4, .ref a6, .int 0, .int 0, .int 0, .long 0, .int 0])), (a0, .inl (ac0, (60, .inr (.inr (.inr (.inr (fun _ => none))))))), (a1, .inl (ac1, (30, .inr (.inr (.inr (.inr (fun _ => none))))))), (a2, .inl (ac2, (18, .inr (.inr (.inr (.inr (fun _ => none))))))), (a3, .inr (4, [.null, .long 0, .long 0, .long 0, .long 0, .int 0])), (a4, .inr (2, [.ref a5, .int 0, .int 1])), (a5, .inl (ac3, (240, .inr (.inr (.inr (.inr (fun _ => none))))))), (a6, .inr (6, [.ref a7, .ref a8, .ref a9, .int 0, .int 0, .long 0])), (a7, .inl (ac4, (18, .inr (.inr (.inr (.inr (fun _ => none))))))), (a8, .inl (ac5, (19, .inr (.inl (fun _ => 0))))), (a9, .inl (ac6, (30, .inr (.inl (fun _ => 0))))), (q8, .inr (8, [.int 0, .ref b0, .ref b1, .ref b2, .ref b3, .ref b4, .ref b5, .ref b6, .ref b7, .ref b8, .ref b9, .ref b10, .int 0, .ref b11, .ref b12, .ref b13, .long 0, .int (-1), .long 0, .long 0, .long 0, .long 0, .int 0, .int 0, .ref b14, .ref b15, .ref b16, .int 0, .long 0, .int 0, .int 0, .ref b17, .ref b18, .ref b19, .ref b20, .ref b21])), (b0, .inl (bc0, (60, .inl (fun _ => 0)))), (b1, .inl (bc1, (60, .inr (.inl (fun _ => 0))))), (b2, .inl (bc2, (60, .inr (.inl (fun _ => 0))))), (b3, .inl (bc3, (60, .inl (fun _ => 0)))), (b4, .inl (bc4, (60, .inl (fun _ => 0)))), (b5, .inl (bc5, (60, .inr (.inl (fun _ => 0))))), (b6, .inl (bc6, (60, .inl (fun _ => 0)))), (b7, .inl (bc7, (60, .inl (fun _ => 0)))), (b8, .inl (bc8, (60, .inl (fun _ => 0)))), (b9, .inl (bc9, (60, .inr (.inl (fun _ => 0))))), (b10, .inl (bc10, (60, .inl (fun _ => 0)))), (b11, .inl (bc11, (30, .inr (.inl (fun _ => 0))))), (b12, .inl (bc12, (30, .inr (.inl (fun _ => 0))))), (b13, .inl (bc13, (30, .inr (.inl (fun _ => 0))))), (b14, .inl (bc14, (18, .inl (fun _ => 0)))), (b15, .inl (bc15, (18, .inr (.inl (fun _ => 0))))), (b16, .inl (bc16, (18, .inr (.inl (fun _ => 0))))), (b17, .inl (bc17, (1024, .inl (fun _ => 0)))), (b18, .inl (bc18, (1024, .inl (fun _ => 0)))), (b19, .inl (bc19, (1024, .inl (fun _ => 0)))), (b20, .inl (bc20, (1024, .inr (.inl (fun _ => 0))))), (b21, .inl (bc21, (1024, .inl (fun _ => 0))))]) : ∀ k j, k < 39 → k ≠ 9 → j < gn (S_init (fun k => List.getD [0, 0, a4, 0, a3, 0, a6, q0, q8, 0, a0, a1, a2, a5, a7, a8, a9, b0, b1, b2, b3, b4, b5, b6, b7, b8, b9, b10, b11, b12, b13, b14, b15, b16, b17, b18, b19, b20, b21] k 0) z) k → va_at (dC, dI) vwCl (ga (S_init (fun k => List.getD [0, 0, a4, 0, a3, 0, a6, q0, q8, 0, a0, a1, a2, a5, a7, a8, a9, b0, b1, b2, b3, b4, b5, b6, b7, b8, b9, b10, b11, b12, b13, b14, b15, b16, b17, b18, b19, b20, b21] k 0) z) k j, pcS ((dC, dI), bs, (fun k => List.getD [cz, cz, cz, cz, cz, cz, cz, cz, cz, cz, ac0, ac1, ac2, ac3, ac4, ac5, ac6, bc0, bc1, bc2, bc3, bc4, bc5, bc6, bc7, bc8, bc9, bc10, bc11, bc12, bc13, bc14, bc15, bc16, bc17, bc18, bc19, bc20, bc21] k cz), es) (S_init (fun k => List.getD [0, 0, a4, 0, a3, 0, a6, q0, q8, 0, a0, a1, a2, a5, a7, a8, a9, b0, b1, b2, b3, b4, b5, b6, b7, b8, b9, b10, b11, b12, b13, b14, b15, b16, b17, b18, b19, b20, b21] k 0) z) k j) H ∧ bs ≤ ga (S_init (fun k => List.getD [0, 0, a4, 0, a3, 0, a6, q0, q8, 0, a0, a1, a2, a5, a7, a8, a9, b0, b1, b2, b3, b4, b5, b6, b7, b8, b9, b10, b11, b12, b13, b14, b15, b16, b17, b18, b19, b20, b21] k 0) z) k j := by
  intro k j h1 h2 h3
  match k, h1, h2, h3 with
  | 0, _, _, h3 => exact absurd h3 (Nat.not_lt_zero _)
  | 1, _, _, h3 => exact absurd h3 (Nat.not_lt_zero _)
  | 2, _, _, h3 =>
    have hj : j = 0 := Nat.lt_one_iff.mp h3
    subst hj
    exact ⟨hP 5 _ rfl, hD.2 5 _ rfl⟩
  | 3, _, _, h3 => exact absurd h3 (Nat.not_lt_zero _)
  | 4, _, _, h3 =>
    have hj : j = 0 := Nat.lt_one_iff.mp h3
    subst hj
    exact ⟨hP 4 _ rfl, hD.2 4 _ rfl⟩
  | 5, _, _, h3 => exact absurd h3 (Nat.not_lt_zero _)
  | 6, _, _, h3 =>
    have hj : j = 0 := Nat.lt_one_iff.mp h3
    subst hj
    exact ⟨hP 7 _ rfl, hD.2 7 _ rfl⟩
  | 7, _, _, h3 =>
    have hj : j = 0 := Nat.lt_one_iff.mp h3
    subst hj
    exact ⟨hP 0 _ rfl, hD.2 0 _ rfl⟩
  | 8, _, _, h3 =>
    have hj : j = 0 := Nat.lt_one_iff.mp h3
    subst hj
    exact ⟨hP 11 _ rfl, hD.2 11 _ rfl⟩
  | 9, _, h2, _ => exact absurd rfl h2
  | 10, _, _, h3 =>
    have hj : j = 0 := Nat.lt_one_iff.mp h3
    subst hj
    exact ⟨hP 1 _ rfl, hD.2 1 _ rfl⟩
  | 11, _, _, h3 =>
    have hj : j = 0 := Nat.lt_one_iff.mp h3
    subst hj
    exact ⟨hP 2 _ rfl, hD.2 2 _ rfl⟩
  | 12, _, _, h3 =>
    have hj : j = 0 := Nat.lt_one_iff.mp h3
    subst hj
    exact ⟨hP 3 _ rfl, hD.2 3 _ rfl⟩
  | 13, _, _, h3 =>
    have hj : j = 0 := Nat.lt_one_iff.mp h3
    subst hj
    exact ⟨hP 6 _ rfl, hD.2 6 _ rfl⟩
  | 14, _, _, h3 =>
    have hj : j = 0 := Nat.lt_one_iff.mp h3
    subst hj
    exact ⟨hP 8 _ rfl, hD.2 8 _ rfl⟩
  | 15, _, _, h3 =>
    have hj : j = 0 := Nat.lt_one_iff.mp h3
    subst hj
    exact ⟨hP 9 _ rfl, hD.2 9 _ rfl⟩
  | 16, _, _, h3 =>
    have hj : j = 0 := Nat.lt_one_iff.mp h3
    subst hj
    exact ⟨hP 10 _ rfl, hD.2 10 _ rfl⟩
  | 17, _, _, h3 =>
    have hj : j = 0 := Nat.lt_one_iff.mp h3
    subst hj
    exact ⟨hP 12 _ rfl, hD.2 12 _ rfl⟩
  | 18, _, _, h3 =>
    have hj : j = 0 := Nat.lt_one_iff.mp h3
    subst hj
    exact ⟨hP 13 _ rfl, hD.2 13 _ rfl⟩
  | 19, _, _, h3 =>
    have hj : j = 0 := Nat.lt_one_iff.mp h3
    subst hj
    exact ⟨hP 14 _ rfl, hD.2 14 _ rfl⟩
  | 20, _, _, h3 =>
    have hj : j = 0 := Nat.lt_one_iff.mp h3
    subst hj
    exact ⟨hP 15 _ rfl, hD.2 15 _ rfl⟩
  | 21, _, _, h3 =>
    have hj : j = 0 := Nat.lt_one_iff.mp h3
    subst hj
    exact ⟨hP 16 _ rfl, hD.2 16 _ rfl⟩
  | 22, _, _, h3 =>
    have hj : j = 0 := Nat.lt_one_iff.mp h3
    subst hj
    exact ⟨hP 17 _ rfl, hD.2 17 _ rfl⟩
  | 23, _, _, h3 =>
    have hj : j = 0 := Nat.lt_one_iff.mp h3
    subst hj
    exact ⟨hP 18 _ rfl, hD.2 18 _ rfl⟩
  | 24, _, _, h3 =>
    have hj : j = 0 := Nat.lt_one_iff.mp h3
    subst hj
    exact ⟨hP 19 _ rfl, hD.2 19 _ rfl⟩
  | 25, _, _, h3 =>
    have hj : j = 0 := Nat.lt_one_iff.mp h3
    subst hj
    exact ⟨hP 20 _ rfl, hD.2 20 _ rfl⟩
  | 26, _, _, h3 =>
    have hj : j = 0 := Nat.lt_one_iff.mp h3
    subst hj
    exact ⟨hP 21 _ rfl, hD.2 21 _ rfl⟩
  | 27, _, _, h3 =>
    have hj : j = 0 := Nat.lt_one_iff.mp h3
    subst hj
    exact ⟨hP 22 _ rfl, hD.2 22 _ rfl⟩
  | 28, _, _, h3 =>
    have hj : j = 0 := Nat.lt_one_iff.mp h3
    subst hj
    exact ⟨hP 23 _ rfl, hD.2 23 _ rfl⟩
  | 29, _, _, h3 =>
    have hj : j = 0 := Nat.lt_one_iff.mp h3
    subst hj
    exact ⟨hP 24 _ rfl, hD.2 24 _ rfl⟩
  | 30, _, _, h3 =>
    have hj : j = 0 := Nat.lt_one_iff.mp h3
    subst hj
    exact ⟨hP 25 _ rfl, hD.2 25 _ rfl⟩
  | 31, _, _, h3 =>
    have hj : j = 0 := Nat.lt_one_iff.mp h3
    subst hj
    exact ⟨hP 26 _ rfl, hD.2 26 _ rfl⟩
  | 32, _, _, h3 =>
    have hj : j = 0 := Nat.lt_one_iff.mp h3
    subst hj
    exact ⟨hP 27 _ rfl, hD.2 27 _ rfl⟩
  | 33, _, _, h3 =>
    have hj : j = 0 := Nat.lt_one_iff.mp h3
    subst hj
    exact ⟨hP 28 _ rfl, hD.2 28 _ rfl⟩
  | 34, _, _, h3 =>
    have hj : j = 0 := Nat.lt_one_iff.mp h3
    subst hj
    exact ⟨hP 29 _ rfl, hD.2 29 _ rfl⟩
  | 35, _, _, h3 =>
    have hj : j = 0 := Nat.lt_one_iff.mp h3
    subst hj
    exact ⟨hP 30 _ rfl, hD.2 30 _ rfl⟩
  | 36, _, _, h3 =>
    have hj : j = 0 := Nat.lt_one_iff.mp h3
    subst hj
    exact ⟨hP 31 _ rfl, hD.2 31 _ rfl⟩
  | 37, _, _, h3 =>
    have hj : j = 0 := Nat.lt_one_iff.mp h3
    subst hj
    exact ⟨hP 32 _ rfl, hD.2 32 _ rfl⟩
  | 38, _, _, h3 =>
    have hj : j = 0 := Nat.lt_one_iff.mp h3
    subst hj
    exact ⟨hP 33 _ rfl, hD.2 33 _ rfl⟩
  | k + 39, h1, _, _ => exact absurd h1 (by omega)
set_option maxRecDepth 100000 in
set_option maxHeartbeats 8000000 in
theorem PW_pos {bs z : Nat} {es : Nat → Nat} {q0 a0 a1 a2 a3 a4 a5 a6 a7 a8 a9 q8 b0 b1 b2 b3 b4 b5 b6 b7 b8 b9 b10 b11 b12 b13 b14 b15 b16 b17 b18 b19 b20 b21 : Nat} {ac0 ac1 ac2 ac3 ac4 ac5 ac6 bc0 bc1 bc2 bc3 bc4 bc5 bc6 bc7 bc8 bc9 bc10 bc11 bc12 bc13 bc14 bc15 bc16 bc17 bc18 bc19 bc20 bc21 cz : ClassId} (hD : va_D (fun q => bs ≤ q) [(q0, .inr (7, [.ref a0, .ref a1, .ref a2, .ref a3, .ref a4, .ref a6, .int 0, .int 0, .int 0, .long 0, .int 0])), (a0, .inl (ac0, (60, .inr (.inr (.inr (.inr (fun _ => none))))))), (a1, .inl (ac1, (30, .inr (.inr (.inr (.inr (fun _ => none))))))), (a2, .inl (ac2, (18, .inr (.inr (.inr (.inr (fun _ => none))))))), (a3, .inr (4, [.null, .long 0, .long 0, .long 0, .long 0, .int 0])), (a4, .inr (2, [.ref a5, .int 0, .int 1])), (a5, .inl (ac3, (240, .inr (.inr (.inr (.inr (fun _ => none))))))), (a6, .inr (6, [.ref a7, .ref a8, .ref a9, .int 0, .int 0, .long 0])), (a7, .inl (ac4, (18, .inr (.inr (.inr (.inr (fun _ => none))))))), (a8, .inl (ac5, (19, .inr (.inl (fun _ => 0))))), (a9, .inl (ac6, (30, .inr (.inl (fun _ => 0))))), (q8, .inr (8, [.int 0, .ref b0, .ref b1, .ref b2, .ref b3, .ref b4, .ref b5, .ref b6, .ref b7, .ref b8, .ref b9, .ref b10, .int 0, .ref b11, .ref b12, .ref b13, .long 0, .int (-1), .long 0, .long 0, .long 0, .long 0, .int 0, .int 0, .ref b14, .ref b15, .ref b16, .int 0, .long 0, .int 0, .int 0, .ref b17, .ref b18, .ref b19, .ref b20, .ref b21])), (b0, .inl (bc0, (60, .inl (fun _ => 0)))), (b1, .inl (bc1, (60, .inr (.inl (fun _ => 0))))), (b2, .inl (bc2, (60, .inr (.inl (fun _ => 0))))), (b3, .inl (bc3, (60, .inl (fun _ => 0)))), (b4, .inl (bc4, (60, .inl (fun _ => 0)))), (b5, .inl (bc5, (60, .inr (.inl (fun _ => 0))))), (b6, .inl (bc6, (60, .inl (fun _ => 0)))), (b7, .inl (bc7, (60, .inl (fun _ => 0)))), (b8, .inl (bc8, (60, .inl (fun _ => 0)))), (b9, .inl (bc9, (60, .inr (.inl (fun _ => 0))))), (b10, .inl (bc10, (60, .inl (fun _ => 0)))), (b11, .inl (bc11, (30, .inr (.inl (fun _ => 0))))), (b12, .inl (bc12, (30, .inr (.inl (fun _ => 0))))), (b13, .inl (bc13, (30, .inr (.inl (fun _ => 0))))), (b14, .inl (bc14, (18, .inl (fun _ => 0)))), (b15, .inl (bc15, (18, .inr (.inl (fun _ => 0))))), (b16, .inl (bc16, (18, .inr (.inl (fun _ => 0))))), (b17, .inl (bc17, (1024, .inl (fun _ => 0)))), (b18, .inl (bc18, (1024, .inl (fun _ => 0)))), (b19, .inl (bc19, (1024, .inl (fun _ => 0)))), (b20, .inl (bc20, (1024, .inr (.inl (fun _ => 0))))), (b21, .inl (bc21, (1024, .inl (fun _ => 0))))]) : ∀ k, fixB k = true → ∃ e, ([(q0, .inr (7, [.ref a0, .ref a1, .ref a2, .ref a3, .ref a4, .ref a6, .int 0, .int 0, .int 0, .long 0, .int 0])), (a0, .inl (ac0, (60, .inr (.inr (.inr (.inr (fun _ => none))))))), (a1, .inl (ac1, (30, .inr (.inr (.inr (.inr (fun _ => none))))))), (a2, .inl (ac2, (18, .inr (.inr (.inr (.inr (fun _ => none))))))), (a3, .inr (4, [.null, .long 0, .long 0, .long 0, .long 0, .int 0])), (a4, .inr (2, [.ref a5, .int 0, .int 1])), (a5, .inl (ac3, (240, .inr (.inr (.inr (.inr (fun _ => none))))))), (a6, .inr (6, [.ref a7, .ref a8, .ref a9, .int 0, .int 0, .long 0])), (a7, .inl (ac4, (18, .inr (.inr (.inr (.inr (fun _ => none))))))), (a8, .inl (ac5, (19, .inr (.inl (fun _ => 0))))), (a9, .inl (ac6, (30, .inr (.inl (fun _ => 0))))), (q8, .inr (8, [.int 0, .ref b0, .ref b1, .ref b2, .ref b3, .ref b4, .ref b5, .ref b6, .ref b7, .ref b8, .ref b9, .ref b10, .int 0, .ref b11, .ref b12, .ref b13, .long 0, .int (-1), .long 0, .long 0, .long 0, .long 0, .int 0, .int 0, .ref b14, .ref b15, .ref b16, .int 0, .long 0, .int 0, .int 0, .ref b17, .ref b18, .ref b19, .ref b20, .ref b21])), (b0, .inl (bc0, (60, .inl (fun _ => 0)))), (b1, .inl (bc1, (60, .inr (.inl (fun _ => 0))))), (b2, .inl (bc2, (60, .inr (.inl (fun _ => 0))))), (b3, .inl (bc3, (60, .inl (fun _ => 0)))), (b4, .inl (bc4, (60, .inl (fun _ => 0)))), (b5, .inl (bc5, (60, .inr (.inl (fun _ => 0))))), (b6, .inl (bc6, (60, .inl (fun _ => 0)))), (b7, .inl (bc7, (60, .inl (fun _ => 0)))), (b8, .inl (bc8, (60, .inl (fun _ => 0)))), (b9, .inl (bc9, (60, .inr (.inl (fun _ => 0))))), (b10, .inl (bc10, (60, .inl (fun _ => 0)))), (b11, .inl (bc11, (30, .inr (.inl (fun _ => 0))))), (b12, .inl (bc12, (30, .inr (.inl (fun _ => 0))))), (b13, .inl (bc13, (30, .inr (.inl (fun _ => 0))))), (b14, .inl (bc14, (18, .inl (fun _ => 0)))), (b15, .inl (bc15, (18, .inr (.inl (fun _ => 0))))), (b16, .inl (bc16, (18, .inr (.inl (fun _ => 0))))), (b17, .inl (bc17, (1024, .inl (fun _ => 0)))), (b18, .inl (bc18, (1024, .inl (fun _ => 0)))), (b19, .inl (bc19, (1024, .inl (fun _ => 0)))), (b20, .inl (bc20, (1024, .inr (.inl (fun _ => 0))))), (b21, .inl (bc21, (1024, .inl (fun _ => 0))))] : va_W)[posL.getD k 0]? = some (List.getD [0, 0, a4, 0, a3, 0, a6, q0, q8, 0, a0, a1, a2, a5, a7, a8, a9, b0, b1, b2, b3, b4, b5, b6, b7, b8, b9, b10, b11, b12, b13, b14, b15, b16, b17, b18, b19, b20, b21] k 0, e) := by
  intro k hk
  have hk39 : k < 39 := (fixB_iff.mp hk).1
  match k, hk39, hk with
  | 0, _, hk => exact absurd hk (by decide)
  | 1, _, hk => exact absurd hk (by decide)
  | 2, _, _ => exact ⟨_, rfl⟩
  | 3, _, hk => exact absurd hk (by decide)
  | 4, _, _ => exact ⟨_, rfl⟩
  | 5, _, hk => exact absurd hk (by decide)
  | 6, _, _ => exact ⟨_, rfl⟩
  | 7, _, _ => exact ⟨_, rfl⟩
  | 8, _, _ => exact ⟨_, rfl⟩
  | 9, _, hk => exact absurd hk (by decide)
  | 10, _, _ => exact ⟨_, rfl⟩
  | 11, _, _ => exact ⟨_, rfl⟩
  | 12, _, _ => exact ⟨_, rfl⟩
  | 13, _, _ => exact ⟨_, rfl⟩
  | 14, _, _ => exact ⟨_, rfl⟩
  | 15, _, _ => exact ⟨_, rfl⟩
  | 16, _, _ => exact ⟨_, rfl⟩
  | 17, _, _ => exact ⟨_, rfl⟩
  | 18, _, _ => exact ⟨_, rfl⟩
  | 19, _, _ => exact ⟨_, rfl⟩
  | 20, _, _ => exact ⟨_, rfl⟩
  | 21, _, _ => exact ⟨_, rfl⟩
  | 22, _, _ => exact ⟨_, rfl⟩
  | 23, _, _ => exact ⟨_, rfl⟩
  | 24, _, _ => exact ⟨_, rfl⟩
  | 25, _, _ => exact ⟨_, rfl⟩
  | 26, _, _ => exact ⟨_, rfl⟩
  | 27, _, _ => exact ⟨_, rfl⟩
  | 28, _, _ => exact ⟨_, rfl⟩
  | 29, _, _ => exact ⟨_, rfl⟩
  | 30, _, _ => exact ⟨_, rfl⟩
  | 31, _, _ => exact ⟨_, rfl⟩
  | 32, _, _ => exact ⟨_, rfl⟩
  | 33, _, _ => exact ⟨_, rfl⟩
  | 34, _, _ => exact ⟨_, rfl⟩
  | 35, _, _ => exact ⟨_, rfl⟩
  | 36, _, _ => exact ⟨_, rfl⟩
  | 37, _, _ => exact ⟨_, rfl⟩
  | 38, _, _ => exact ⟨_, rfl⟩
  | k + 39, h1, _ => exact absurd h1 (by omega)
set_option maxRecDepth 100000 in
set_option maxHeartbeats 8000000 in
theorem PW_init {dC : Nat → ClassId} {dI : Nat → Nat → Nat} {bs z : Nat} {es : Nat → Nat} {s : State} {H : Heap} {q0 a0 a1 a2 a3 a4 a5 a6 a7 a8 a9 q8 b0 b1 b2 b3 b4 b5 b6 b7 b8 b9 b10 b11 b12 b13 b14 b15 b16 b17 b18 b19 b20 b21 : Nat} {ac0 ac1 ac2 ac3 ac4 ac5 ac6 bc0 bc1 bc2 bc3 bc4 bc5 bc6 bc7 bc8 bc9 bc10 bc11 bc12 bc13 bc14 bc15 bc16 bc17 bc18 bc19 bc20 bc21 cz : ClassId} (hP : va_P (dC, dI) vwCl [(q0, .inr (7, [.ref a0, .ref a1, .ref a2, .ref a3, .ref a4, .ref a6, .int 0, .int 0, .int 0, .long 0, .int 0])), (a0, .inl (ac0, (60, .inr (.inr (.inr (.inr (fun _ => none))))))), (a1, .inl (ac1, (30, .inr (.inr (.inr (.inr (fun _ => none))))))), (a2, .inl (ac2, (18, .inr (.inr (.inr (.inr (fun _ => none))))))), (a3, .inr (4, [.null, .long 0, .long 0, .long 0, .long 0, .int 0])), (a4, .inr (2, [.ref a5, .int 0, .int 1])), (a5, .inl (ac3, (240, .inr (.inr (.inr (.inr (fun _ => none))))))), (a6, .inr (6, [.ref a7, .ref a8, .ref a9, .int 0, .int 0, .long 0])), (a7, .inl (ac4, (18, .inr (.inr (.inr (.inr (fun _ => none))))))), (a8, .inl (ac5, (19, .inr (.inl (fun _ => 0))))), (a9, .inl (ac6, (30, .inr (.inl (fun _ => 0))))), (q8, .inr (8, [.int 0, .ref b0, .ref b1, .ref b2, .ref b3, .ref b4, .ref b5, .ref b6, .ref b7, .ref b8, .ref b9, .ref b10, .int 0, .ref b11, .ref b12, .ref b13, .long 0, .int (-1), .long 0, .long 0, .long 0, .long 0, .int 0, .int 0, .ref b14, .ref b15, .ref b16, .int 0, .long 0, .int 0, .int 0, .ref b17, .ref b18, .ref b19, .ref b20, .ref b21])), (b0, .inl (bc0, (60, .inl (fun _ => 0)))), (b1, .inl (bc1, (60, .inr (.inl (fun _ => 0))))), (b2, .inl (bc2, (60, .inr (.inl (fun _ => 0))))), (b3, .inl (bc3, (60, .inl (fun _ => 0)))), (b4, .inl (bc4, (60, .inl (fun _ => 0)))), (b5, .inl (bc5, (60, .inr (.inl (fun _ => 0))))), (b6, .inl (bc6, (60, .inl (fun _ => 0)))), (b7, .inl (bc7, (60, .inl (fun _ => 0)))), (b8, .inl (bc8, (60, .inl (fun _ => 0)))), (b9, .inl (bc9, (60, .inr (.inl (fun _ => 0))))), (b10, .inl (bc10, (60, .inl (fun _ => 0)))), (b11, .inl (bc11, (30, .inr (.inl (fun _ => 0))))), (b12, .inl (bc12, (30, .inr (.inl (fun _ => 0))))), (b13, .inl (bc13, (30, .inr (.inl (fun _ => 0))))), (b14, .inl (bc14, (18, .inl (fun _ => 0)))), (b15, .inl (bc15, (18, .inr (.inl (fun _ => 0))))), (b16, .inl (bc16, (18, .inr (.inl (fun _ => 0))))), (b17, .inl (bc17, (1024, .inl (fun _ => 0)))), (b18, .inl (bc18, (1024, .inl (fun _ => 0)))), (b19, .inl (bc19, (1024, .inl (fun _ => 0)))), (b20, .inl (bc20, (1024, .inr (.inl (fun _ => 0))))), (b21, .inl (bc21, (1024, .inl (fun _ => 0))))] H) (hK : va_K (dC, dI) vwCl [(ac0, .object "ClockAuctions$Lot"), (ac1, .object "ClockAuctions$Buyer"), (ac2, .object "ClockAuctions$Bid"), (ac3, .object "ClockAuctions$Entry"), (ac4, .object "ClockAuctions$Bid"), (ac5, .long), (ac6, .long), (bc0, .int), (bc1, .long), (bc2, .long), (bc3, .int), (bc4, .int), (bc5, .long), (bc6, .boolean), (bc7, .boolean), (bc8, .boolean), (bc9, .long), (bc10, .int), (bc11, .long), (bc12, .long), (bc13, .long), (bc14, .int), (bc15, .long), (bc16, .long), (bc17, .int), (bc18, .int), (bc19, .int), (bc20, .long), (bc21, .int)] s) (hD : va_D (fun q => bs ≤ q) [(q0, .inr (7, [.ref a0, .ref a1, .ref a2, .ref a3, .ref a4, .ref a6, .int 0, .int 0, .int 0, .long 0, .int 0])), (a0, .inl (ac0, (60, .inr (.inr (.inr (.inr (fun _ => none))))))), (a1, .inl (ac1, (30, .inr (.inr (.inr (.inr (fun _ => none))))))), (a2, .inl (ac2, (18, .inr (.inr (.inr (.inr (fun _ => none))))))), (a3, .inr (4, [.null, .long 0, .long 0, .long 0, .long 0, .int 0])), (a4, .inr (2, [.ref a5, .int 0, .int 1])), (a5, .inl (ac3, (240, .inr (.inr (.inr (.inr (fun _ => none))))))), (a6, .inr (6, [.ref a7, .ref a8, .ref a9, .int 0, .int 0, .long 0])), (a7, .inl (ac4, (18, .inr (.inr (.inr (.inr (fun _ => none))))))), (a8, .inl (ac5, (19, .inr (.inl (fun _ => 0))))), (a9, .inl (ac6, (30, .inr (.inl (fun _ => 0))))), (q8, .inr (8, [.int 0, .ref b0, .ref b1, .ref b2, .ref b3, .ref b4, .ref b5, .ref b6, .ref b7, .ref b8, .ref b9, .ref b10, .int 0, .ref b11, .ref b12, .ref b13, .long 0, .int (-1), .long 0, .long 0, .long 0, .long 0, .int 0, .int 0, .ref b14, .ref b15, .ref b16, .int 0, .long 0, .int 0, .int 0, .ref b17, .ref b18, .ref b19, .ref b20, .ref b21])), (b0, .inl (bc0, (60, .inl (fun _ => 0)))), (b1, .inl (bc1, (60, .inr (.inl (fun _ => 0))))), (b2, .inl (bc2, (60, .inr (.inl (fun _ => 0))))), (b3, .inl (bc3, (60, .inl (fun _ => 0)))), (b4, .inl (bc4, (60, .inl (fun _ => 0)))), (b5, .inl (bc5, (60, .inr (.inl (fun _ => 0))))), (b6, .inl (bc6, (60, .inl (fun _ => 0)))), (b7, .inl (bc7, (60, .inl (fun _ => 0)))), (b8, .inl (bc8, (60, .inl (fun _ => 0)))), (b9, .inl (bc9, (60, .inr (.inl (fun _ => 0))))), (b10, .inl (bc10, (60, .inl (fun _ => 0)))), (b11, .inl (bc11, (30, .inr (.inl (fun _ => 0))))), (b12, .inl (bc12, (30, .inr (.inl (fun _ => 0))))), (b13, .inl (bc13, (30, .inr (.inl (fun _ => 0))))), (b14, .inl (bc14, (18, .inl (fun _ => 0)))), (b15, .inl (bc15, (18, .inr (.inl (fun _ => 0))))), (b16, .inl (bc16, (18, .inr (.inl (fun _ => 0))))), (b17, .inl (bc17, (1024, .inl (fun _ => 0)))), (b18, .inl (bc18, (1024, .inl (fun _ => 0)))), (b19, .inl (bc19, (1024, .inl (fun _ => 0)))), (b20, .inl (bc20, (1024, .inr (.inl (fun _ => 0))))), (b21, .inl (bc21, (1024, .inl (fun _ => 0))))]) (hz : H.size = z) (hbz : bs ≤ H.size) (hEs : ∀ i j, i < 6 → j < 6 → es i = es j → i = j) (hZ : ∀ j, j < 6 → va_Z "ClockAuctions$State" (stN j) "LClockAuctions$State;" (.ref (es j)) (fun q => bs ≤ q) s H) : PW ((dC, dI), bs, (fun k => List.getD [cz, cz, cz, cz, cz, cz, cz, cz, cz, cz, ac0, ac1, ac2, ac3, ac4, ac5, ac6, bc0, bc1, bc2, bc3, bc4, bc5, bc6, bc7, bc8, bc9, bc10, bc11, bc12, bc13, bc14, bc15, bc16, bc17, bc18, bc19, bc20, bc21] k cz), es) (S_init (fun k => List.getD [0, 0, a4, 0, a3, 0, a6, q0, q8, 0, a0, a1, a2, a5, a7, a8, a9, b0, b1, b2, b3, b4, b5, b6, b7, b8, b9, b10, b11, b12, b13, b14, b15, b16, b17, b18, b19, b20, b21] k 0) z) s H := by
  have gnF : ∀ k, k < 39 → gn (S_init (fun k => List.getD [0, 0, a4, 0, a3, 0, a6, q0, q8, 0, a0, a1, a2, a5, a7, a8, a9, b0, b1, b2, b3, b4, b5, b6, b7, b8, b9, b10, b11, b12, b13, b14, b15, b16, b17, b18, b19, b20, b21] k 0) z) k = if fixB k = true then 1 else 0 := fun k hk => by show (if k = 99 then z else if fixB k = true then 1 else 0) = _; rw [if_neg (by omega)]
  have fx : ∀ k j, k < 39 → j < gn (S_init (fun k => List.getD [0, 0, a4, 0, a3, 0, a6, q0, q8, 0, a0, a1, a2, a5, a7, a8, a9, b0, b1, b2, b3, b4, b5, b6, b7, b8, b9, b10, b11, b12, b13, b14, b15, b16, b17, b18, b19, b20, b21] k 0) z) k → fixB k = true := fun k j hk hj => by
    rw [gnF k hk] at hj
    by_cases h : fixB k = true
    · exact h
    · rw [if_neg h] at hj; exact absurd hj (Nat.not_lt_zero _)
  have j0 : ∀ k j, k < 39 → j < gn (S_init (fun k => List.getD [0, 0, a4, 0, a3, 0, a6, q0, q8, 0, a0, a1, a2, a5, a7, a8, a9, b0, b1, b2, b3, b4, b5, b6, b7, b8, b9, b10, b11, b12, b13, b14, b15, b16, b17, b18, b19, b20, b21] k 0) z) k → j = 0 := fun k j hk hj => by
    have e := fx k j hk hj
    rw [gnF k hk, if_pos e] at hj; omega
  refine ⟨⟨hz, hbz⟩, PW_cells hP hK hD, ?_, ?_, ?_, hEs, hK.sub [0, 1, 2, 3, 4, 5, 6, 7, 8, 9, 10, 11, 12, 13, 14, 15, 16, 17, 18, 19, 20, 21, 22, 23, 24, 25, 26, 27, 28] rfl, hZ⟩
  · intro k j k2 j2 h1 h2 _ _ h3 h4 h5
    have e1 := fx k j h1 h3
    have e2 := fx k2 j2 h2 h4
    have d1 := j0 k j h1 h3
    have d2 := j0 k2 j2 h2 h4
    obtain ⟨x1, g1⟩ := PW_pos (es := es) (z := z) hD k e1 (cz := cz)
    obtain ⟨x2, g2⟩ := PW_pos (es := es) (z := z) hD k2 e2 (cz := cz)
    exact ⟨posL_inj k h1 k2 h2 e1 e2 (hD.1 _ _ _ _ g1 g2 h5), by rw [d1, d2]⟩
  · intro k j f i h
    have h2 : (none : Option Nat) = some i := h
    cases h2
  · intro k hk
    rw [gnF k hk.1, if_pos (fixB_iff.mpr hk)]; exact Nat.one_pos
