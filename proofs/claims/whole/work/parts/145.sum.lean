/-! ===== sums over the lots ===== -/
def hvZ (a : RS) (b n : Nat) : Int := if (sT a n = 3 ∨ sT a n = 2) ∧ qi a 21 n = nI b then (qj a 22 n).toInt else 0
theorem heldZ_s (a : RS) (b n : Nat) : heldZ a b (n + 1) = heldZ a b n + hvZ a b n := rfl
theorem heldZ_c {a a2 : RS} {b n : Nat} (h : ∀ i, i < n → hvZ a2 b i = hvZ a b i) : heldZ a2 b n = heldZ a b n := by
  induction n with
  | zero => rfl
  | succ n ih => rw [heldZ_s, heldZ_s, ih (fun i hi => h i (by omega)), h n (by omega)]
theorem heldZ_d {a a2 : RS} {b i n : Nat} (h : ∀ j, j < n → j ≠ i → hvZ a2 b j = hvZ a b j) (hi : i < n) : heldZ a2 b n = heldZ a b n - hvZ a b i + hvZ a2 b i := by
  induction n with
  | zero => omega
  | succ n ih =>
    rw [heldZ_s, heldZ_s]
    by_cases e : i = n
    · subst e
      rw [heldZ_c (fun j hj => h j (by omega) (by omega))]; omega
    · rw [ih (fun j hj => h j (by omega)) (by omega), h n (by omega) (fun q => e q.symm)]; omega
theorem capS_c {a a2 : RS} {n : Nat} (h : ∀ i, i < n → capA a2 i = capA a i) : capS a2 n = capS a n := by
  induction n with
  | zero => rfl
  | succ n ih => simp only [capS]; rw [ih (fun i hi => h i (by omega)), h n (by omega)]
theorem capS_d {a a2 : RS} {i n : Nat} (h : ∀ j, j < n → j ≠ i → capA a2 j = capA a j) (hi : i < n) : capS a2 n + capA a i = capS a n + capA a2 i := by
  induction n with
  | zero => omega
  | succ n ih =>
    simp only [capS]
    by_cases e : i = n
    · subst e
      rw [capS_c (fun j hj => h j (by omega) (by omega))]; omega
    · have := ih (fun j hj => h j (by omega)) (by omega)
      have := h n (by omega) (fun q => e q.symm)
      omega
theorem qi_wi_ne {a : RS} {k f x y : Nat} {v : Int32} (h : x ≠ k) : qi (wi a k f v) x y = qi a x y := if_neg (fun q => h q.1)
theorem qj_wj_ne {a : RS} {k f x y : Nat} {v : Int64} (h : x ≠ k) : qj (wj a k f v) x y = qj a x y := if_neg (fun q => h q.1)
theorem hvZ_c {a a2 : RS} {b i : Nat} (h0 : qi a2 20 i = qi a 20 i) (h1 : qi a2 21 i = qi a 21 i) (h2 : qj a2 22 i = qj a 22 i) : hvZ a2 b i = hvZ a b i := by
  unfold hvZ sT; rw [h0, h1, h2]
theorem capA_c {a a2 : RS} {i : Nat} (h0 : qi a2 20 i = qi a 20 i) (h1 : qi a2 24 i = qi a 24 i) (h2 : qi a2 25 i = qi a 25 i) : capA a2 i = capA a i := by
  unfold capA sT; rw [h0, h1, h2]
theorem heldZ_wj {a : RS} {k f b n : Nat} {v : Int64} (h : k ≠ 22) : heldZ (wj a k f v) b n = heldZ a b n :=
  heldZ_c (fun i _ => hvZ_c rfl rfl (qj_wj_ne (fun q => h q.symm)))
theorem heldZ_wi {a : RS} {k f b n : Nat} {v : Int32} (h : k ≠ 20) (h1 : k ≠ 21) : heldZ (wi a k f v) b n = heldZ a b n :=
  heldZ_c (fun i _ => hvZ_c (qi_wi_ne (fun q => h q.symm)) (qi_wi_ne (fun q => h1 q.symm)) rfl)
theorem capS_wj {a : RS} {k f n : Nat} {v : Int64} : capS (wj a k f v) n = capS a n :=
  capS_c (fun i _ => capA_c rfl rfl rfl)
theorem capS_wi {a : RS} {k f n : Nat} {v : Int32} (h : k ≠ 20) (h1 : k ≠ 24) (h2 : k ≠ 25) : capS (wi a k f v) n = capS a n :=
  capS_c (fun i _ => capA_c (qi_wi_ne (fun q => h q.symm)) (qi_wi_ne (fun q => h1 q.symm)) (qi_wi_ne (fun q => h2 q.symm)))
theorem aL_wi {a : RS} {k f : Nat} {v : Int32} : aL (wi a k f v) = if 8 = k ∧ 0 = f then v.toNatClampNeg else aL a := by unfold aL; rw [qi_wi]; split <;> rfl
theorem aB_wi {a : RS} {k f : Nat} {v : Int32} : aB (wi a k f v) = if 8 = k ∧ 12 = f then v.toNatClampNeg else aB a := by unfold aB; rw [qi_wi]; split <;> rfl
theorem aD_wi {a : RS} {k f : Nat} {v : Int32} : aD (wi a k f v) = if 8 = k ∧ 23 = f then v.toNatClampNeg else aD a := by unfold aD; rw [qi_wi]; split <;> rfl
theorem aR_wi {a : RS} {k f : Nat} {v : Int32} : aR (wi a k f v) = if 8 = k ∧ 30 = f then v.toNatClampNeg else aR a := by unfold aR; rw [qi_wi]; split <;> rfl
theorem sT_wi {a : RS} {k f i : Nat} {v : Int32} : sT (wi a k f v) i = if 20 = k ∧ i = f then v.toNatClampNeg else sT a i := by unfold sT; rw [qi_wi]; split <;> rfl
theorem aL_wj {a : RS} {k f : Nat} {v : Int64} : aL (wj a k f v) = aL a := rfl
theorem aB_wj {a : RS} {k f : Nat} {v : Int64} : aB (wj a k f v) = aB a := rfl
theorem aD_wj {a : RS} {k f : Nat} {v : Int64} : aD (wj a k f v) = aD a := rfl
theorem aR_wj {a : RS} {k f : Nat} {v : Int64} : aR (wj a k f v) = aR a := rfl
theorem sT_wj {a : RS} {k f i : Nat} {v : Int64} : sT (wj a k f v) i = sT a i := rfl
theorem lastA_wj {a : RS} {k f : Nat} {v : Int64} : lastA (wj a k f v) = lastA a := rfl
theorem lastA_wi {a : RS} {k f : Nat} {v : Int32} (h : 38 ≠ k) (h1 : 8 ≠ k ∨ 30 ≠ f) : lastA (wi a k f v) = lastA a := by
  unfold lastA
  rw [show aR (wi a k f v) = aR a by rw [aR_wi]; exact if_neg (fun q => h1.elim (fun z => z q.1) (fun z => z q.2)), qi_wi_ne h]
theorem prevA_wj {a : RS} {k f r : Nat} {v : Int64} : prevA (wj a k f v) r = prevA a r := rfl
theorem prevA_wi {a : RS} {k f r : Nat} {v : Int32} (h : 38 ≠ k) : prevA (wi a k f v) r = prevA a r := by
  unfold prevA; rw [qi_wi_ne h]
theorem heldZ_hi {a : RS} {k f b n : Nat} {v : Int32} (h : n ≤ f) : heldZ (wi a k f v) b n = heldZ a b n :=
  heldZ_c (fun i hi => hvZ_c (if_neg (fun q => by omega)) (if_neg (fun q => by omega)) rfl)
theorem capS_hi {a : RS} {k f n : Nat} {v : Int32} (h : n ≤ f) : capS (wi a k f v) n = capS a n :=
  capS_c (fun i hi => capA_c (if_neg (fun q => by omega)) (if_neg (fun q => by omega)) (if_neg (fun q => by omega)))
theorem i64_lo {p : Int32} : p.toInt64 < (0 : Int64) ↔ p < 0 := by
  rw [Int64.lt_iff_toInt_lt, Int32.lt_iff_toInt_lt, Int32.toInt_toInt64]; rfl
theorem i64_hi {p : Int32} : (9 : Int64) < p.toInt64 ↔ (9 : Int32) < p := by
  rw [Int64.lt_iff_toInt_lt, Int32.lt_iff_toInt_lt, Int32.toInt_toInt64]; rfl
