/-! ===== one lot changed ===== -/
def SB (S S1 : St) (i : Nat) : Prop := (∀ k j f, ¬ (k = 5 ∧ j = i) → gi S1 k j f = gi S k j f ∧ gj S1 k j f = gj S k j f ∧ gr S1 k j f = gr S k j f) ∧ (∀ k, gn S1 k = gn S k)
theorem SB.rf {S : St} {i : Nat} : SB S S i := ⟨fun _ _ _ _ => ⟨rfl, rfl, rfl⟩, fun _ => rfl⟩
theorem SB.i {S S1 : St} {i f : Nat} {v : Int32} (h : SB S S1 i) : SB S (si S1 5 i f v) i := ⟨fun k j x q => ⟨(show gi (si S1 5 i f v) k j x = gi S1 k j x from if_neg (fun z => q ⟨z.1, z.2.1⟩)).trans (h.1 k j x q).1, (h.1 k j x q).2⟩, h.2⟩
theorem SB.j {S S1 : St} {i f : Nat} {v : Int64} (h : SB S S1 i) : SB S (sj S1 5 i f v) i := ⟨fun k j x q => ⟨(h.1 k j x q).1, (show gj (sj S1 5 i f v) k j x = gj S1 k j x from if_neg (fun z => q ⟨z.1, z.2.1⟩)).trans (h.1 k j x q).2.1, (h.1 k j x q).2.2⟩, h.2⟩
theorem SB.r {S S1 : St} {i f : Nat} {v : Option Nat} (h : SB S S1 i) : SB S (sr S1 5 i f v) i := ⟨fun k j x q => ⟨(h.1 k j x q).1, (h.1 k j x q).2.1, (show gr (sr S1 5 i f v) k j x = gr S1 k j x from if_neg (fun z => q ⟨z.1, z.2.1⟩)).trans (h.1 k j x q).2.2⟩, h.2⟩
def SA (a a1 : RS) (i : Nat) : Prop := ∀ k f, ¬ (17 ≤ k ∧ k ≤ 27 ∧ f = i) → qi a1 k f = qi a k f ∧ qj a1 k f = qj a k f
theorem SA.rf {a : RS} {i : Nat} : SA a a i := fun _ _ _ => ⟨rfl, rfl⟩
theorem SA.i {a a1 : RS} {i k : Nat} {v : Int32} (h : SA a a1 i) (hk : 17 ≤ k ∧ k ≤ 27) : SA a (wi a1 k i v) i := fun x y q => ⟨(show qi (wi a1 k i v) x y = qi a1 x y from if_neg (fun z => q ⟨by omega, by omega, z.2⟩)).trans (h x y q).1, (h x y q).2⟩
theorem SA.j {a a1 : RS} {i k : Nat} {v : Int64} (h : SA a a1 i) (hk : 17 ≤ k ∧ k ≤ 27) : SA a (wj a1 k i v) i := fun x y q => ⟨(h x y q).1, (show qj (wj a1 k i v) x y = qj a1 x y from if_neg (fun z => q ⟨by omega, by omega, z.2⟩)).trans (h x y q).2⟩
theorem SA.n {a a1 : RS} {i : Nat} (h : SA a a1 i) : aL a1 = aL a ∧ aB a1 = aB a ∧ aD a1 = aD a ∧ aR a1 = aR a := by
  unfold aL aB aD aR
  rw [(h 8 0 (by omega)).1, (h 8 12 (by omega)).1, (h 8 23 (by omega)).1, (h 8 30 (by omega)).1]
  exact ⟨rfl, rfl, rfl, rfl⟩
theorem SA.last {a a1 : RS} {i : Nat} (h : SA a a1 i) : lastA a1 = lastA a := by
  unfold lastA
  rw [h.n.2.2.2, (h 38 _ (by omega)).1]
theorem SA.st {a a1 : RS} {i x : Nat} (h : SA a a1 i) (hx : x ≠ i) : sT a1 x = sT a x := by
  unfold sT; rw [(h 20 x (by omega)).1]
theorem CR.lot {S S1 : St} {a a1 : RS} {ob i : Nat} (h : CR S a ob) (hs : SB S S1 i) (ha : SA a a1 i)
    (r : gi S1 5 i 0 = nI i ∧ gi S1 5 i 1 = qi a1 17 i ∧ gj S1 5 i 2 = qj a1 18 i ∧ gj S1 5 i 3 = qj a1 19 i ∧ gr S1 5 i 4 = some (sT a1 i) ∧ gi S1 5 i 8 = qi a1 23 i ∧ gi S1 5 i 9 = qi a1 24 i ∧ gi S1 5 i 10 = qi a1 25 i ∧ gi S1 5 i 11 = qi a1 27 i)
    (rt : (sT a1 i = 2 ∨ sT a1 i = 3) → gi S1 5 i 5 = qi a1 21 i ∧ gj S1 5 i 6 = qj a1 22 i) (ro : sT a1 i = 2 → gj S1 5 i 7 = qj a1 26 i) : CR S1 a1 ob := by
  obtain ⟨hCRc, hCRl, hCRt, hCRo, hCRb, hCRp, hCRk, hCRd, hCRs, hCRr⟩ := h
  obtain ⟨nL, nB, nD, nR⟩ := ha.n
  have nla := ha.last
  obtain ⟨h1, h2⟩ := hs
  have c0i : ∀ j f, gi S1 0 j f = gi S 0 j f := fun j f => (h1 0 j f (by omega)).1
  have c1i : ∀ j f, gi S1 1 j f = gi S 1 j f := fun j f => (h1 1 j f (by omega)).1
  have c2i : ∀ j f, gi S1 2 j f = gi S 2 j f := fun j f => (h1 2 j f (by omega)).1
  have c3i : ∀ j f, gi S1 3 j f = gi S 3 j f := fun j f => (h1 3 j f (by omega)).1
  have c4i : ∀ j f, gi S1 4 j f = gi S 4 j f := fun j f => (h1 4 j f (by omega)).1
  have c6i : ∀ j f, gi S1 6 j f = gi S 6 j f := fun j f => (h1 6 j f (by omega)).1
  have c7i : ∀ j f, gi S1 7 j f = gi S 7 j f := fun j f => (h1 7 j f (by omega)).1
  have c0j : ∀ j f, gj S1 0 j f = gj S 0 j f := fun j f => (h1 0 j f (by omega)).2.1
  have c1j : ∀ j f, gj S1 1 j f = gj S 1 j f := fun j f => (h1 1 j f (by omega)).2.1
  have c3j : ∀ j f, gj S1 3 j f = gj S 3 j f := fun j f => (h1 3 j f (by omega)).2.1
  have c4j : ∀ j f, gj S1 4 j f = gj S 4 j f := fun j f => (h1 4 j f (by omega)).2.1
  have c6j : ∀ j f, gj S1 6 j f = gj S 6 j f := fun j f => (h1 6 j f (by omega)).2.1
  have c7j : ∀ j f, gj S1 7 j f = gj S 7 j f := fun j f => (h1 7 j f (by omega)).2.1
  have c4r : ∀ j f, gr S1 4 j f = gr S 4 j f := fun j f => (h1 4 j f (by omega)).2.2
  have cAr : ∀ j f, gr S1 10 j f = gr S 10 j f := fun j f => (h1 10 j f (by omega)).2.2
  have cBr : ∀ j f, gr S1 11 j f = gr S 11 j f := fun j f => (h1 11 j f (by omega)).2.2
  have cCr : ∀ j f, gr S1 12 j f = gr S 12 j f := fun j f => (h1 12 j f (by omega)).2.2
  have cDr : ∀ j f, gr S1 13 j f = gr S 13 j f := fun j f => (h1 13 j f (by omega)).2.2
  have q8 : ∀ f, qi a1 8 f = qi a 8 f := fun f => (ha 8 f (by omega)).1
  have j8 : ∀ f, qj a1 8 f = qj a 8 f := fun f => (ha 8 f (by omega)).2
  refine ⟨?_, ?_, ?_, ?_, ?_, ?_, ?_, ?_, ?_, ?_⟩
  · unfold CRc at *; simp only [c7i, q8, h2, nL, nB, nD, nR]; exact hCRc
  · intro x hx
    rw [nL] at hx
    by_cases e : x = i
    · subst e; rw [cAr]; exact ⟨(hCRl x hx).1, r⟩
    · have := hCRl x hx
      rw [cAr, (h1 5 x 0 (by omega)).1, (h1 5 x 1 (by omega)).1, (h1 5 x 2 (by omega)).2.1, (h1 5 x 3 (by omega)).2.1, (h1 5 x 4 (by omega)).2.2, (h1 5 x 8 (by omega)).1, (h1 5 x 9 (by omega)).1, (h1 5 x 10 (by omega)).1, (h1 5 x 11 (by omega)).1, ha.st e, (ha 17 x (by omega)).1, (ha 18 x (by omega)).2, (ha 19 x (by omega)).2, (ha 23 x (by omega)).1, (ha 24 x (by omega)).1, (ha 25 x (by omega)).1, (ha 27 x (by omega)).1]
      exact this
  · intro x hx hs
    rw [nL] at hx
    by_cases e : x = i
    · subst e; exact rt hs
    · rw [ha.st e] at hs
      have := hCRt x hx hs
      rw [(h1 5 x 5 (by omega)).1, (h1 5 x 6 (by omega)).2.1, (ha 21 x (by omega)).1, (ha 22 x (by omega)).2]
      exact this
  · intro x hx hs
    rw [nL] at hx
    by_cases e : x = i
    · subst e; exact ro hs
    · rw [ha.st e] at hs
      have := hCRo x hx hs
      rw [(h1 5 x 7 (by omega)).2.1, (ha 26 x (by omega)).2]
      exact this
  · intro x hx
    rw [nB] at hx
    rw [cBr, c1i, c1j, c1j, (ha 28 x (by omega)).2, (ha 29 x (by omega)).2]
    exact hCRb x hx
  · intro x hx
    rw [nB] at hx
    rw [c1j, q8, (ha 30 x (by omega)).2]
    exact hCRp x hx
  · unfold CRk at *; simp only [c4r, c4j, c4i, c7j, q8, j8]; exact hCRk
  · intro x hx
    rw [nD] at hx
    rw [cCr, c0i, c0i, c0j, c0j, (ha 31 x (by omega)).1, (ha 32 x (by omega)).2, (ha 33 x (by omega)).2]
    exact hCRd x hx
  · unfold CRs at *; simp only [c6i, c6j, c7i, q8, j8]; exact hCRs
  · obtain ⟨r1, r2, r3⟩ := hCRr
    refine ⟨by rw [c2i, q8]; exact r1, by rw [c2i, nla]; exact r2, fun x hx => ?_⟩
    rw [nR] at hx
    rw [cDr, c3i, c3i, c3i, c3j, c3i, (ha 34 x (by omega)).1, (ha 35 x (by omega)).1, (ha 36 x (by omega)).1, (ha 37 x (by omega)).2, (ha 38 x (by omega)).1]
    exact r3 x hx
theorem hvZ_sa {a a1 : RS} {i j b : Nat} (h : SA a a1 i) (hj : j ≠ i) : hvZ a1 b j = hvZ a b j := hvZ_c (h 20 j (by omega)).1 (h 21 j (by omega)).1 (h 22 j (by omega)).2
theorem capA_sa {a a1 : RS} {i j : Nat} (h : SA a a1 i) (hj : j ≠ i) : capA a1 j = capA a j := capA_c (h 20 j (by omega)).1 (h 24 j (by omega)).1 (h 25 j (by omega)).1
theorem heldZ_sa {a a1 : RS} {i b n : Nat} (h : SA a a1 i) (hi : i < n) : heldZ a1 b n = heldZ a b n - hvZ a b i + hvZ a1 b i := heldZ_d (fun _ _ hj => hvZ_sa h hj) hi
theorem capS_sa {a a1 : RS} {i n : Nat} (h : SA a a1 i) (hi : i < n) : capS a1 n + capA a i = capS a n + capA a1 i := capS_d (fun _ _ hj => capA_sa h hj) hi
theorem Ok.lot {a a1 : RS} {i : Nat} (h : Ok a) (hi : i < aL a) (ha : SA a a1 i) (hon : qi a 8 17 ≠ nI i)
    (r : qi a1 20 i = nI (sT a1 i) ∧ sT a1 i < 6 ∧ (qi a1 23 i = 0 ∨ qi a1 23 i = 1) ∧ (qi a1 24 i = 0 ∨ qi a1 24 i = 1) ∧ (qi a1 25 i = 0 ∨ qi a1 25 i = 1) ∧ 1 ≤ (qj a1 18 i).toInt ∧ (qj a1 18 i).toInt ≤ 1000000000 ∧ 0 ≤ (qj a1 19 i).toInt ∧ (qj a1 19 i).toInt ≤ 1000000000)
    (rt : ((sT a1 i = 2 ∨ sT a1 i = 3) → 0 ≤ (qj a1 22 i).toInt) ∧ (qi a1 23 i = 1 → sT a1 i = 3 ∧ (qj a1 22 i).toInt ≤ 1000000000))
    (rz : (sT a1 i = 2 ∨ sT a1 i = 3) → ∃ b, b < aB a ∧ qi a1 21 i = nI b)
    (rb : ∀ b, b < aB a → heldZ a b (aL a) - hvZ a b i + hvZ a1 b i ≤ (qj a 28 b).toInt) (rc : capA a i ≤ capA a1 i) : Ok a1 := by
  obtain ⟨hOkC, hOkL, hOkT, hOkN, hOkB, hOkP, hOkD, hOkZ, hOkR⟩ := h
  obtain ⟨nL, nB, nD, nR⟩ := ha.n
  have q8 : ∀ f, qi a1 8 f = qi a 8 f := fun f => (ha 8 f (by omega)).1
  have j8 : ∀ f, qj a1 8 f = qj a 8 f := fun f => (ha 8 f (by omega)).2
  refine ⟨?_, ?_, ?_, ?_, ?_, ?_, ?_, ?_, ?_⟩
  · have := capS_sa ha hi
    unfold OkC at *
    simp only [q8, nL, nB, nD, nR]
    obtain ⟨c1, c2, c3, c4, c5, c6, c7, c8⟩ := hOkC
    exact ⟨c1, c2, c3, c4, c5, c6, c7, by omega⟩
  · intro x hx
    rw [nL] at hx
    by_cases e : x = i
    · subst e; exact r
    · rw [ha.st e, (ha 20 x (by omega)).1, (ha 23 x (by omega)).1, (ha 24 x (by omega)).1, (ha 25 x (by omega)).1, (ha 18 x (by omega)).2, (ha 19 x (by omega)).2]
      exact hOkL x hx
  · intro x hx
    rw [nL] at hx
    by_cases e : x = i
    · subst e; exact rt
    · rw [ha.st e, (ha 22 x (by omega)).2, (ha 23 x (by omega)).1]
      exact hOkT x hx
  · unfold OkN at *
    simp only [q8, j8, nL]
    refine ⟨hOkN.1, hOkN.2.1, hOkN.2.2.imp id ?_⟩
    rintro ⟨x, hx, q1, q2, q3⟩
    exact ⟨x, hx, q1, (ha.st (fun z => hon (by rw [q1, z]))).trans q2, q3⟩
  · intro b hb
    rw [nB] at hb
    rw [nL, (ha 28 b (by omega)).2, (ha 29 b (by omega)).2, heldZ_sa ha hi]
    have := hOkB b hb
    exact ⟨this.1, this.2.1, this.2.2.1, this.2.2.2.1, rb b hb⟩
  · intro hn b hb
    rw [nB] at hb
    rw [q8] at hn
    rw [(ha 30 b (by omega)).2, j8]
    exact hOkP hn b hb
  · intro k hk
    rw [nD] at hk
    rw [nB, (ha 31 k (by omega)).1, (ha 32 k (by omega)).2]
    exact hOkD k hk
  · refine ⟨fun x hx => ?_, fun b hb => ?_, fun x hx hs => ?_⟩
    · rw [nL] at hx
      rw [(ha 23 x (by omega)).1, (ha 24 x (by omega)).1, (ha 25 x (by omega)).1, (ha 27 x (by omega)).1]
      exact hOkZ.1 x hx
    · rw [nB] at hb
      rw [(ha 29 b (by omega)).2]
      exact hOkZ.2.1 b hb
    · rw [nL] at hx
      rw [nB]
      by_cases e : x = i
      · subst e; exact rz hs
      · rw [ha.st e] at hs
        rw [(ha 21 x (by omega)).1]
        exact hOkZ.2.2 x hx hs
  · intro x hx
    rw [nR] at hx
    have : prevA a1 x = prevA a x := by unfold prevA; rw [(ha 38 _ (by omega)).1]
    rw [this, (ha 34 x (by omega)).1, (ha 35 x (by omega)).1, (ha 36 x (by omega)).1, (ha 37 x (by omega)).2, (ha 38 x (by omega)).1]
    exact hOkR x hx
theorem hvZ_off {a : RS} {b i : Nat} (h : ¬ (sT a i = 3 ∨ sT a i = 2)) : hvZ a b i = 0 := if_neg (fun q => h q.1)
theorem hvZ_on {a : RS} {b i : Nat} (h : sT a i = 3 ∨ sT a i = 2) : hvZ a b i = if qi a 21 i = nI b then (qj a 22 i).toInt else 0 := by
  unfold hvZ
  by_cases q : qi a 21 i = nI b
  · rw [if_pos ⟨h, q⟩, if_pos q]
  · rw [if_neg (fun z => q z.2), if_neg q]
theorem Ok.h0 {a : RS} (h : Ok a) {i : Nat} (hi : i < aL a) (b : Nat) : 0 ≤ hvZ a b i := hvZ_pos h.2.2.1 hi
theorem heldZ_nn {a : RS} {b n : Nat} (h : ∀ i, i < n → 0 ≤ hvZ a b i) : 0 ≤ heldZ a b n := by
  induction n with
  | zero => exact Int.le_refl _
  | succ n ih =>
    have := ih (fun i hi => h i (by omega))
    have := h n (by omega)
    rw [heldZ_s]; omega
/-- what is free, as an Int -/
theorem heldF_Z {a : RS} (h : Ok a) {b : Nat} (hb : b < aB a) : ∀ n, n ≤ aL a → (heldF a b n).toInt = heldZ a b n ∧ 0 ≤ heldZ a b n ∧ heldZ a b n ≤ heldZ a b (aL a) := by
  have mono : ∀ d n, n + d = aL a → heldZ a b n ≤ heldZ a b (aL a) := by
    intro d
    induction d with
    | zero => intro n hn; rw [show n = aL a by omega]; exact Int.le_refl _
    | succ d ih =>
      intro n hn
      have := ih (n + 1) (by omega)
      rw [heldZ_s] at this
      have := h.h0 (i := n) (by omega) b
      omega
  intro n
  induction n with
  | zero => intro _; exact ⟨rfl, Int.le_refl _, mono (aL a) 0 (by omega)⟩
  | succ n ih =>
    intro hn
    obtain ⟨e1, e2, e3⟩ := ih (by omega)
    have m := mono (aL a - (n + 1)) (n + 1) (by omega)
    have p := h.h0 (i := n) (by omega) b
    have hc := (h.2.2.2.2.1 b hb)
    have ev : (if (sT a n = 3 ∨ sT a n = 2) ∧ qi a 21 n = nI b then qj a 22 n else 0 : Int64).toInt = hvZ a b n := by
      unfold hvZ; split <;> rfl
    refine ⟨?_, by rw [heldZ_s]; omega, m⟩
    rw [heldZ_s] at m ⊢
    show (heldF a b n + (if (sT a n = 3 ∨ sT a n = 2) ∧ qi a 21 n = nI b then qj a 22 n else 0 : Int64)).toInt = _
    rw [j_add (by rw [e1, ev]; omega) (by rw [e1, ev]; omega), e1, ev]
theorem free_Z {a : RS} (h : Ok a) {b : Nat} (hb : b < aB a) : (qj a 28 b - heldF a b (aL a)).toInt = (qj a 28 b).toInt - heldZ a b (aL a) := by
  obtain ⟨e1, e2, e3⟩ := heldF_Z h hb (aL a) (Nat.le_refl _)
  have hc := (h.2.2.2.2.1 b hb)
  rw [j_sub (by rw [e1]; omega) (by rw [e1]; omega), e1]
