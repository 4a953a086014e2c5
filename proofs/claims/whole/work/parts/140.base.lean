/-! ===== the reference's rows as a value ===== -/
abbrev RS : Type := (Nat → Nat → Int32) × (Nat → Nat → Int64)
def qi (a : RS) (k f : Nat) : Int32 := a.1 k f
def qj (a : RS) (k f : Nat) : Int64 := a.2 k f
def wi (a : RS) (k f : Nat) (v : Int32) : RS := ((fun x y => if x = k ∧ y = f then v else a.1 x y), a.2)
def wj (a : RS) (k f : Nat) (v : Int64) : RS := (a.1, (fun x y => if x = k ∧ y = f then v else a.2 x y))
theorem qi_wi (a : RS) (k f : Nat) (v : Int32) (x y : Nat) : qi (wi a k f v) x y = if x = k ∧ y = f then v else qi a x y := rfl
theorem qi_wj (a : RS) (k f : Nat) (v : Int64) (x y : Nat) : qi (wj a k f v) x y = qi a x y := rfl
theorem qj_wi (a : RS) (k f : Nat) (v : Int32) (x y : Nat) : qj (wi a k f v) x y = qj a x y := rfl
theorem qj_wj (a : RS) (k f : Nat) (v : Int64) (x y : Nat) : qj (wj a k f v) x y = if x = k ∧ y = f then v else qj a x y := rfl
def isR (k : Nat) : Bool := k == 8 || (decide (17 ≤ k) && decide (k ≤ 38))
def pr (S : St) : RS := ((fun k f => if isR k = true then gi S k 0 f else 0), (fun k f => if isR k = true then gj S k 0 f else 0))
theorem gi_pr {S : St} {k f : Nat} (h : isR k = true) : gi S k 0 f = qi (pr S) k f := (if_pos h).symm
theorem gj_pr {S : St} {k f : Nat} (h : isR k = true) : gj S k 0 f = qj (pr S) k f := (if_pos h).symm
theorem pr_si {S : St} {k f : Nat} {v : Int32} (h : isR k = true) : pr (si S k 0 f v) = wi (pr S) k f v := by
  refine Prod.ext ?_ rfl
  funext x y
  show (if isR x = true then gi (si S k 0 f v) x 0 y else 0) = if x = k ∧ y = f then v else if isR x = true then gi S x 0 y else 0
  rw [gi_si]
  by_cases e : x = k ∧ y = f
  · obtain ⟨rfl, rfl⟩ := e
    simp [h]
  · rw [if_neg (show ¬ (x = k ∧ (0 : Nat) = 0 ∧ y = f) from fun q => e ⟨q.1, q.2.2⟩), if_neg e]
theorem pr_sj {S : St} {k f : Nat} {v : Int64} (h : isR k = true) : pr (sj S k 0 f v) = wj (pr S) k f v := by
  refine Prod.ext rfl ?_
  funext x y
  show (if isR x = true then gj (sj S k 0 f v) x 0 y else 0) = if x = k ∧ y = f then v else if isR x = true then gj S x 0 y else 0
  rw [gj_sj]
  by_cases e : x = k ∧ y = f
  · obtain ⟨rfl, rfl⟩ := e
    simp [h]
  · rw [if_neg (show ¬ (x = k ∧ (0 : Nat) = 0 ∧ y = f) from fun q => e ⟨q.1, q.2.2⟩), if_neg e]
theorem pr_siC {S : St} {k j f : Nat} {v : Int32} (h : isR k = false) : pr (si S k j f v) = pr S := by
  refine Prod.ext ?_ rfl
  funext x y
  show (if isR x = true then gi (si S k j f v) x 0 y else 0) = if isR x = true then gi S x 0 y else 0
  rw [gi_si]
  by_cases e : x = k
  · subst e; simp [h]
  · rw [if_neg (show ¬ (x = k ∧ 0 = j ∧ y = f) from fun q => e q.1)]
theorem pr_sjC {S : St} {k j f : Nat} {v : Int64} (h : isR k = false) : pr (sj S k j f v) = pr S := by
  refine Prod.ext rfl ?_
  funext x y
  show (if isR x = true then gj (sj S k j f v) x 0 y else 0) = if isR x = true then gj S x 0 y else 0
  rw [gj_sj]
  by_cases e : x = k
  · subst e; simp [h]
  · rw [if_neg (show ¬ (x = k ∧ 0 = j ∧ y = f) from fun q => e q.1)]
theorem pr_sr {S : St} {k j f : Nat} {v : Option Nat} : pr (sr S k j f v) = pr S := rfl
theorem pr_sn {S : St} {k : Nat} (h : isR k = false) : pr (sn S k) = pr S := by
  refine Prod.ext ?_ ?_
  · funext x y
    show (if isR x = true then gi (sn S k) x 0 y else 0) = if isR x = true then gi S x 0 y else 0
    rw [gi_sn]
    by_cases e : x = k
    · subst e; simp [h]
    · rw [if_neg (show ¬ (x = k ∧ 0 = gn S k) from fun q => e q.1)]
  · funext x y
    show (if isR x = true then gj (sn S k) x 0 y else 0) = if isR x = true then gj S x 0 y else 0
    rw [gj_sn]
    by_cases e : x = k
    · subst e; simp [h]
    · rw [if_neg (show ¬ (x = k ∧ 0 = gn S k) from fun q => e q.1)]
/-- the class's rows are the same -/
def CS (S S2 : St) : Prop := (∀ k j f, isR k = false → gi S2 k j f = gi S k j f ∧ gj S2 k j f = gj S k j f) ∧ (∀ k j f, gr S2 k j f = gr S k j f) ∧ (∀ k, gn S2 k = gn S k)
theorem CS.rf {S : St} : CS S S := ⟨fun _ _ _ _ => ⟨rfl, rfl⟩, fun _ _ _ => rfl, fun _ => rfl⟩
theorem CS.trans {S S1 S2 : St} (h1 : CS S S1) (h2 : CS S1 S2) : CS S S2 := ⟨fun k j f h => ⟨(h2.1 k j f h).1.trans (h1.1 k j f h).1, (h2.1 k j f h).2.trans (h1.1 k j f h).2⟩, fun k j f => (h2.2.1 k j f).trans (h1.2.1 k j f), fun k => (h2.2.2 k).trans (h1.2.2 k)⟩
theorem CS.si {S S1 : St} {k j f : Nat} {v : Int32} (h1 : CS S S1) (h : isR k = true) : CS S (si S1 k j f v) := h1.trans ⟨fun x y z hx => ⟨by rw [gi_si, if_neg (by rintro ⟨rfl, -⟩; rw [h] at hx; cases hx)], rfl⟩, fun _ _ _ => rfl, fun _ => rfl⟩
theorem CS.sj {S S1 : St} {k j f : Nat} {v : Int64} (h1 : CS S S1) (h : isR k = true) : CS S (sj S1 k j f v) := h1.trans ⟨fun x y z hx => ⟨rfl, by rw [gj_sj, if_neg (by rintro ⟨rfl, -⟩; rw [h] at hx; cases hx)]⟩, fun _ _ _ => rfl, fun _ => rfl⟩
/-! how many lots, buyers, bids, records; a lot's state -/
def aL (a : RS) : Nat := (qi a 8 0).toNatClampNeg
def aB (a : RS) : Nat := (qi a 8 12).toNatClampNeg
def aD (a : RS) : Nat := (qi a 8 23).toNatClampNeg
def aR (a : RS) : Nat := (qi a 8 30).toNatClampNeg
def sT (a : RS) (i : Nat) : Nat := (qi a 20 i).toNatClampNeg
def lastA (a : RS) : Int32 := if aR a = 0 then 1 else qi a 38 (aR a - 1)
/-- the class's rows hold what the reference's rows a hold -/
def CRc (S : St) (a : RS) (ob : Nat) : Prop := gi S 7 0 6 = qi a 8 0 ∧ gi S 7 0 7 = qi a 8 12 ∧ gi S 7 0 8 = qi a 8 23 ∧ gn S 5 = aL a ∧ gn S 1 = aB a ∧ gn S 3 = aR a ∧ gn S 0 = ob + aD a
def CRl (S : St) (a : RS) : Prop := ∀ i, i < aL a → gr S 10 0 i = some i ∧ gi S 5 i 0 = nI i ∧ gi S 5 i 1 = qi a 17 i ∧ gj S 5 i 2 = qj a 18 i ∧ gj S 5 i 3 = qj a 19 i ∧ gr S 5 i 4 = some (sT a i) ∧ gi S 5 i 8 = qi a 23 i ∧ gi S 5 i 9 = qi a 24 i ∧ gi S 5 i 10 = qi a 25 i ∧ gi S 5 i 11 = qi a 27 i
def CRt (S : St) (a : RS) : Prop := ∀ i, i < aL a → (sT a i = 2 ∨ sT a i = 3) → gi S 5 i 5 = qi a 21 i ∧ gj S 5 i 6 = qj a 22 i
def CRo (S : St) (a : RS) : Prop := ∀ i, i < aL a → sT a i = 2 → gj S 5 i 7 = qj a 26 i
def CRb (S : St) (a : RS) : Prop := ∀ b, b < aB a → gr S 11 0 b = some b ∧ gi S 1 b 0 = nI b ∧ gj S 1 b 1 = qj a 28 b ∧ gj S 1 b 2 = qj a 29 b
def CRp (S : St) (a : RS) : Prop := ∀ b, b < aB a → gj S 1 b 3 = if qi a 8 17 = -1 then -1 else qj a 30 b
def CRk (S : St) (a : RS) : Prop := gr S 4 0 0 = (if qi a 8 17 = -1 then none else some (qi a 8 17).toNatClampNeg) ∧ gj S 4 0 1 = qj a 8 20 ∧ gj S 4 0 2 = qj a 8 21 ∧ gj S 4 0 3 = qj a 8 19 ∧ gj S 4 0 4 = qj a 8 18 ∧ gi S 4 0 5 = qi a 8 22 ∧ gj S 7 0 9 = qj a 8 16
def CRd (S : St) (a : RS) (ob : Nat) : Prop := ∀ k, k < aD a → gr S 12 0 k = some (ob + k) ∧ gi S 0 (ob + k) 0 = nI k ∧ gi S 0 (ob + k) 1 = qi a 31 k ∧ gj S 0 (ob + k) 2 = qj a 32 k ∧ gj S 0 (ob + k) 3 = qj a 33 k
def CRs (S : St) (a : RS) : Prop := gi S 6 0 4 = qi a 8 27 ∧ gj S 6 0 5 = qj a 8 28 ∧ gi S 7 0 10 = qi a 8 29
def CRr (S : St) (a : RS) : Prop := gi S 2 0 1 = qi a 8 30 ∧ gi S 2 0 2 = lastA a ∧ ∀ r, r < aR a → gr S 13 0 r = some r ∧ gi S 3 r 0 = qi a 34 r ∧ gi S 3 r 1 = qi a 35 r ∧ gi S 3 r 2 = qi a 36 r ∧ gj S 3 r 3 = qj a 37 r ∧ gi S 3 r 4 = qi a 38 r
def CR (S : St) (a : RS) (ob : Nat) : Prop := CRc S a ob ∧ CRl S a ∧ CRt S a ∧ CRo S a ∧ CRb S a ∧ CRp S a ∧ CRk S a ∧ CRd S a ob ∧ CRs S a ∧ CRr S a
theorem CR.cs {S S2 : St} {a : RS} {ob : Nat} (h : CR S a ob) (hs : CS S S2) : CR S2 a ob := by
  obtain ⟨h1, h2, h3⟩ := hs
  have g0 : ∀ j f, gi S2 0 j f = gi S 0 j f := fun j f => (h1 0 j f rfl).1
  have g1 : ∀ j f, gi S2 1 j f = gi S 1 j f := fun j f => (h1 1 j f rfl).1
  have g2 : ∀ j f, gi S2 2 j f = gi S 2 j f := fun j f => (h1 2 j f rfl).1
  have g3 : ∀ j f, gi S2 3 j f = gi S 3 j f := fun j f => (h1 3 j f rfl).1
  have g4 : ∀ j f, gi S2 4 j f = gi S 4 j f := fun j f => (h1 4 j f rfl).1
  have g5 : ∀ j f, gi S2 5 j f = gi S 5 j f := fun j f => (h1 5 j f rfl).1
  have g6 : ∀ j f, gi S2 6 j f = gi S 6 j f := fun j f => (h1 6 j f rfl).1
  have g7 : ∀ j f, gi S2 7 j f = gi S 7 j f := fun j f => (h1 7 j f rfl).1
  have e0 : ∀ j f, gj S2 0 j f = gj S 0 j f := fun j f => (h1 0 j f rfl).2
  have e1 : ∀ j f, gj S2 1 j f = gj S 1 j f := fun j f => (h1 1 j f rfl).2
  have e3 : ∀ j f, gj S2 3 j f = gj S 3 j f := fun j f => (h1 3 j f rfl).2
  have e4 : ∀ j f, gj S2 4 j f = gj S 4 j f := fun j f => (h1 4 j f rfl).2
  have e5 : ∀ j f, gj S2 5 j f = gj S 5 j f := fun j f => (h1 5 j f rfl).2
  have e6 : ∀ j f, gj S2 6 j f = gj S 6 j f := fun j f => (h1 6 j f rfl).2
  have e7 : ∀ j f, gj S2 7 j f = gj S 7 j f := fun j f => (h1 7 j f rfl).2
  unfold CR CRc CRl CRt CRo CRb CRp CRk CRd CRs CRr at *
  simp only [g0, g1, g2, g3, g4, g5, g6, g7, e0, e1, e3, e4, e5, e6, e7, h2, h3]
  exact h
/-! ===== numbers ===== -/
theorem nI_cl {x : Int32} (h : 0 ≤ x) : x = nI x.toNatClampNeg := by
  have h2 := Int32.le_iff_toInt_le.mp h
  rw [Int32.toInt_zero] at h2
  apply Int32.toInt_inj.mp
  have h3 := x.toInt_lt
  rw [nI_toInt (by rw [Int32.toNatClampNeg]; omega), Int32.toNatClampNeg]
  omega
/-- a lot's (buyer's, bid's) number, or none -/
theorem ix_or (x : Int32) (n : Nat) (hn : n < 2 ^ 31) : (∃ i, i < n ∧ x = nI i) ∨ (x < 0 ∨ nI n ≤ x) := by
  rcases pk_ix x hn with h | h | h
  · exact Or.inr (Or.inl h)
  · exact Or.inr (Or.inr h)
  · exact Or.inl h
theorem ix_not {i n : Nat} (h : i < n) (hn : n < 2 ^ 31) : ¬ (nI i < 0) ∧ ¬ (nI n ≤ nI i) := ⟨nI_pos (by omega), nI_ge h hn⟩
