/-! ===== one write leaves the other components ===== -/
def nk (l : List Nat) (k : Nat) : Bool := !(l.contains k)
def nf (l8 l : List Nat) (k f : Nat) : Bool := if k = 8 then !(l8.contains f) else !(l.contains k)
theorem nk_ne {l : List Nat} {k x : Nat} (h : nk l k = true) (hx : x ∈ l) : x ≠ k := by
  rintro rfl
  simp [nk] at h; exact h hx
theorem nf_ne {l8 l : List Nat} {k f x y : Nat} (h : nf l8 l k f = true) (hx : x ∈ l) (h8 : x ≠ 8) : ¬ (x = k ∧ y = f) := by
  rintro ⟨rfl, rfl⟩
  simp [nf, h8] at h; exact h hx
theorem nf_8 {l8 l : List Nat} {k f y : Nat} (h : nf l8 l k f = true) (hy : y ∈ l8) : ¬ (8 = k ∧ y = f) := by
  rintro ⟨rfl, rfl⟩
  simp [nf] at h; exact h hy
theorem CRc_si {S : St} {a : RS} {ob : Nat} {k j f : Nat} {v : Int32} (h : nk [7] k = true) : CRc (si S k j f v) a ob = CRc S a ob := by
  have e7 : ∀ y z, gi (si S k j f v) 7 y z = gi S 7 y z := fun y z => if_neg (fun q => nk_ne h (by decide) q.1)
  unfold CRc; simp only [e7, gj_si, gr_si, gn_si]
  try rfl
theorem CRc_sj {S : St} {a : RS} {ob : Nat} {k j f : Nat} {v : Int64} (h : nk [] k = true) : CRc (sj S k j f v) a ob = CRc S a ob := by
  unfold CRc; simp only [gi_sj, gr_sj, gn_sj]
  try rfl
theorem CRc_sr {S : St} {a : RS} {ob : Nat} {k j f : Nat} {v : Option Nat} (h : nk [] k = true) : CRc (sr S k j f v) a ob = CRc S a ob := by
  unfold CRc; simp only [gi_sr, gj_sr, gn_sr]
  try rfl
theorem CRc_sn {S : St} {a : RS} {ob : Nat} {k : Nat} (h : nk [0, 1, 3, 5, 7] k = true) : CRc (sn S k) a ob = CRc S a ob := by
  have gi7 : ∀ y z, gi (sn S k) 7 y z = gi S 7 y z := fun y z => if_neg (fun q => nk_ne h (by decide) q.1)
  have gn5 : gn (sn S k) 5 = gn S 5 := if_neg (fun q => q.elim (fun z => nk_ne h (by decide) z) (by decide))
  have gn1 : gn (sn S k) 1 = gn S 1 := if_neg (fun q => q.elim (fun z => nk_ne h (by decide) z) (by decide))
  have gn3 : gn (sn S k) 3 = gn S 3 := if_neg (fun q => q.elim (fun z => nk_ne h (by decide) z) (by decide))
  have gn0 : gn (sn S k) 0 = gn S 0 := if_neg (fun q => q.elim (fun z => nk_ne h (by decide) z) (by decide))
  unfold CRc; simp only [gi7, gn5, gn1, gn3, gn0]
  try rfl
theorem CRl_si {S : St} {a : RS} {k j f : Nat} {v : Int32} (h : nk [5] k = true) : CRl (si S k j f v) a = CRl S a := by
  have e5 : ∀ y z, gi (si S k j f v) 5 y z = gi S 5 y z := fun y z => if_neg (fun q => nk_ne h (by decide) q.1)
  unfold CRl; simp only [e5, gj_si, gr_si, gn_si]
  try rfl
theorem CRl_sj {S : St} {a : RS} {k j f : Nat} {v : Int64} (h : nk [5] k = true) : CRl (sj S k j f v) a = CRl S a := by
  have e5 : ∀ y z, gj (sj S k j f v) 5 y z = gj S 5 y z := fun y z => if_neg (fun q => nk_ne h (by decide) q.1)
  unfold CRl; simp only [e5, gi_sj, gr_sj, gn_sj]
  try rfl
theorem CRl_sr {S : St} {a : RS} {k j f : Nat} {v : Option Nat} (h : nk [10, 5] k = true) : CRl (sr S k j f v) a = CRl S a := by
  have e10 : ∀ y z, gr (sr S k j f v) 10 y z = gr S 10 y z := fun y z => if_neg (fun q => nk_ne h (by decide) q.1)
  have e5 : ∀ y z, gr (sr S k j f v) 5 y z = gr S 5 y z := fun y z => if_neg (fun q => nk_ne h (by decide) q.1)
  unfold CRl; simp only [e10, e5, gi_sr, gj_sr, gn_sr]
  try rfl
theorem CRl_sn {S : St} {a : RS} {k : Nat} (h : nk [5, 10] k = true) : CRl (sn S k) a = CRl S a := by
  have gi5 : ∀ y z, gi (sn S k) 5 y z = gi S 5 y z := fun y z => if_neg (fun q => nk_ne h (by decide) q.1)
  have gj5 : ∀ y z, gj (sn S k) 5 y z = gj S 5 y z := fun y z => if_neg (fun q => nk_ne h (by decide) q.1)
  have gr10 : ∀ y z, gr (sn S k) 10 y z = gr S 10 y z := fun y z => if_neg (fun q => nk_ne h (by decide) q.1)
  have gr5 : ∀ y z, gr (sn S k) 5 y z = gr S 5 y z := fun y z => if_neg (fun q => nk_ne h (by decide) q.1)
  unfold CRl; simp only [gi5, gj5, gr10, gr5]
  try rfl
theorem CRt_si {S : St} {a : RS} {k j f : Nat} {v : Int32} (h : nk [5] k = true) : CRt (si S k j f v) a = CRt S a := by
  have e5 : ∀ y z, gi (si S k j f v) 5 y z = gi S 5 y z := fun y z => if_neg (fun q => nk_ne h (by decide) q.1)
  unfold CRt; simp only [e5, gj_si, gr_si, gn_si]
  try rfl
theorem CRt_sj {S : St} {a : RS} {k j f : Nat} {v : Int64} (h : nk [5] k = true) : CRt (sj S k j f v) a = CRt S a := by
  have e5 : ∀ y z, gj (sj S k j f v) 5 y z = gj S 5 y z := fun y z => if_neg (fun q => nk_ne h (by decide) q.1)
  unfold CRt; simp only [e5, gi_sj, gr_sj, gn_sj]
  try rfl
theorem CRt_sr {S : St} {a : RS} {k j f : Nat} {v : Option Nat} (h : nk [] k = true) : CRt (sr S k j f v) a = CRt S a := by
  unfold CRt; simp only [gi_sr, gj_sr, gn_sr]
  try rfl
theorem CRt_sn {S : St} {a : RS} {k : Nat} (h : nk [5] k = true) : CRt (sn S k) a = CRt S a := by
  have gi5 : ∀ y z, gi (sn S k) 5 y z = gi S 5 y z := fun y z => if_neg (fun q => nk_ne h (by decide) q.1)
  have gj5 : ∀ y z, gj (sn S k) 5 y z = gj S 5 y z := fun y z => if_neg (fun q => nk_ne h (by decide) q.1)
  unfold CRt; simp only [gi5, gj5]
  try rfl
theorem CRo_si {S : St} {a : RS} {k j f : Nat} {v : Int32} (h : nk [] k = true) : CRo (si S k j f v) a = CRo S a := by
  unfold CRo; simp only [gj_si, gr_si, gn_si]
  try rfl
theorem CRo_sj {S : St} {a : RS} {k j f : Nat} {v : Int64} (h : nk [5] k = true) : CRo (sj S k j f v) a = CRo S a := by
  have e5 : ∀ y z, gj (sj S k j f v) 5 y z = gj S 5 y z := fun y z => if_neg (fun q => nk_ne h (by decide) q.1)
  unfold CRo; simp only [e5, gi_sj, gr_sj, gn_sj]
  try rfl
theorem CRo_sr {S : St} {a : RS} {k j f : Nat} {v : Option Nat} (h : nk [] k = true) : CRo (sr S k j f v) a = CRo S a := by
  unfold CRo; simp only [gi_sr, gj_sr, gn_sr]
  try rfl
theorem CRo_sn {S : St} {a : RS} {k : Nat} (h : nk [5] k = true) : CRo (sn S k) a = CRo S a := by
  have gj5 : ∀ y z, gj (sn S k) 5 y z = gj S 5 y z := fun y z => if_neg (fun q => nk_ne h (by decide) q.1)
  unfold CRo; simp only [gj5]
  try rfl
theorem CRb_si {S : St} {a : RS} {k j f : Nat} {v : Int32} (h : nk [1] k = true) : CRb (si S k j f v) a = CRb S a := by
  have e1 : ∀ y z, gi (si S k j f v) 1 y z = gi S 1 y z := fun y z => if_neg (fun q => nk_ne h (by decide) q.1)
  unfold CRb; simp only [e1, gj_si, gr_si, gn_si]
  try rfl
theorem CRb_sj {S : St} {a : RS} {k j f : Nat} {v : Int64} (h : nk [1] k = true) : CRb (sj S k j f v) a = CRb S a := by
  have e1 : ∀ y z, gj (sj S k j f v) 1 y z = gj S 1 y z := fun y z => if_neg (fun q => nk_ne h (by decide) q.1)
  unfold CRb; simp only [e1, gi_sj, gr_sj, gn_sj]
  try rfl
theorem CRb_sr {S : St} {a : RS} {k j f : Nat} {v : Option Nat} (h : nk [11] k = true) : CRb (sr S k j f v) a = CRb S a := by
  have e11 : ∀ y z, gr (sr S k j f v) 11 y z = gr S 11 y z := fun y z => if_neg (fun q => nk_ne h (by decide) q.1)
  unfold CRb; simp only [e11, gi_sr, gj_sr, gn_sr]
  try rfl
theorem CRb_sn {S : St} {a : RS} {k : Nat} (h : nk [1, 11] k = true) : CRb (sn S k) a = CRb S a := by
  have gi1 : ∀ y z, gi (sn S k) 1 y z = gi S 1 y z := fun y z => if_neg (fun q => nk_ne h (by decide) q.1)
  have gj1 : ∀ y z, gj (sn S k) 1 y z = gj S 1 y z := fun y z => if_neg (fun q => nk_ne h (by decide) q.1)
  have gr11 : ∀ y z, gr (sn S k) 11 y z = gr S 11 y z := fun y z => if_neg (fun q => nk_ne h (by decide) q.1)
  unfold CRb; simp only [gi1, gj1, gr11]
  try rfl
theorem CRp_si {S : St} {a : RS} {k j f : Nat} {v : Int32} (h : nk [] k = true) : CRp (si S k j f v) a = CRp S a := by
  unfold CRp; simp only [gj_si, gr_si, gn_si]
  try rfl
theorem CRp_sj {S : St} {a : RS} {k j f : Nat} {v : Int64} (h : nk [1] k = true) : CRp (sj S k j f v) a = CRp S a := by
  have e1 : ∀ y z, gj (sj S k j f v) 1 y z = gj S 1 y z := fun y z => if_neg (fun q => nk_ne h (by decide) q.1)
  unfold CRp; simp only [e1, gi_sj, gr_sj, gn_sj]
  try rfl
theorem CRp_sr {S : St} {a : RS} {k j f : Nat} {v : Option Nat} (h : nk [] k = true) : CRp (sr S k j f v) a = CRp S a := by
  unfold CRp; simp only [gi_sr, gj_sr, gn_sr]
  try rfl
theorem CRp_sn {S : St} {a : RS} {k : Nat} (h : nk [1] k = true) : CRp (sn S k) a = CRp S a := by
  have gj1 : ∀ y z, gj (sn S k) 1 y z = gj S 1 y z := fun y z => if_neg (fun q => nk_ne h (by decide) q.1)
  unfold CRp; simp only [gj1]
  try rfl
theorem CRk_si {S : St} {a : RS} {k j f : Nat} {v : Int32} (h : nk [4] k = true) : CRk (si S k j f v) a = CRk S a := by
  have e4 : ∀ y z, gi (si S k j f v) 4 y z = gi S 4 y z := fun y z => if_neg (fun q => nk_ne h (by decide) q.1)
  unfold CRk; simp only [e4, gj_si, gr_si, gn_si]
  try rfl
theorem CRk_sj {S : St} {a : RS} {k j f : Nat} {v : Int64} (h : nk [4, 7] k = true) : CRk (sj S k j f v) a = CRk S a := by
  have e4 : ∀ y z, gj (sj S k j f v) 4 y z = gj S 4 y z := fun y z => if_neg (fun q => nk_ne h (by decide) q.1)
  have e7 : ∀ y z, gj (sj S k j f v) 7 y z = gj S 7 y z := fun y z => if_neg (fun q => nk_ne h (by decide) q.1)
  unfold CRk; simp only [e4, e7, gi_sj, gr_sj, gn_sj]
  try rfl
theorem CRk_sr {S : St} {a : RS} {k j f : Nat} {v : Option Nat} (h : nk [4] k = true) : CRk (sr S k j f v) a = CRk S a := by
  have e4 : ∀ y z, gr (sr S k j f v) 4 y z = gr S 4 y z := fun y z => if_neg (fun q => nk_ne h (by decide) q.1)
  unfold CRk; simp only [e4, gi_sr, gj_sr, gn_sr]
  try rfl
theorem CRk_sn {S : St} {a : RS} {k : Nat} (h : nk [4, 7] k = true) : CRk (sn S k) a = CRk S a := by
  have gi4 : ∀ y z, gi (sn S k) 4 y z = gi S 4 y z := fun y z => if_neg (fun q => nk_ne h (by decide) q.1)
  have gj4 : ∀ y z, gj (sn S k) 4 y z = gj S 4 y z := fun y z => if_neg (fun q => nk_ne h (by decide) q.1)
  have gj7 : ∀ y z, gj (sn S k) 7 y z = gj S 7 y z := fun y z => if_neg (fun q => nk_ne h (by decide) q.1)
  have gr4 : ∀ y z, gr (sn S k) 4 y z = gr S 4 y z := fun y z => if_neg (fun q => nk_ne h (by decide) q.1)
  unfold CRk; simp only [gi4, gj4, gj7, gr4]
  try rfl
theorem CRd_si {S : St} {a : RS} {ob : Nat} {k j f : Nat} {v : Int32} (h : nk [0] k = true) : CRd (si S k j f v) a ob = CRd S a ob := by
  have e0 : ∀ y z, gi (si S k j f v) 0 y z = gi S 0 y z := fun y z => if_neg (fun q => nk_ne h (by decide) q.1)
  unfold CRd; simp only [e0, gj_si, gr_si, gn_si]
  try rfl
theorem CRd_sj {S : St} {a : RS} {ob : Nat} {k j f : Nat} {v : Int64} (h : nk [0] k = true) : CRd (sj S k j f v) a ob = CRd S a ob := by
  have e0 : ∀ y z, gj (sj S k j f v) 0 y z = gj S 0 y z := fun y z => if_neg (fun q => nk_ne h (by decide) q.1)
  unfold CRd; simp only [e0, gi_sj, gr_sj, gn_sj]
  try rfl
theorem CRd_sr {S : St} {a : RS} {ob : Nat} {k j f : Nat} {v : Option Nat} (h : nk [12] k = true) : CRd (sr S k j f v) a ob = CRd S a ob := by
  have e12 : ∀ y z, gr (sr S k j f v) 12 y z = gr S 12 y z := fun y z => if_neg (fun q => nk_ne h (by decide) q.1)
  unfold CRd; simp only [e12, gi_sr, gj_sr, gn_sr]
  try rfl
theorem CRd_sn {S : St} {a : RS} {ob : Nat} {k : Nat} (h : nk [0, 12] k = true) : CRd (sn S k) a ob = CRd S a ob := by
  have gi0 : ∀ y z, gi (sn S k) 0 y z = gi S 0 y z := fun y z => if_neg (fun q => nk_ne h (by decide) q.1)
  have gj0 : ∀ y z, gj (sn S k) 0 y z = gj S 0 y z := fun y z => if_neg (fun q => nk_ne h (by decide) q.1)
  have gr12 : ∀ y z, gr (sn S k) 12 y z = gr S 12 y z := fun y z => if_neg (fun q => nk_ne h (by decide) q.1)
  unfold CRd; simp only [gi0, gj0, gr12]
  try rfl
theorem CRs_si {S : St} {a : RS} {k j f : Nat} {v : Int32} (h : nk [6, 7] k = true) : CRs (si S k j f v) a = CRs S a := by
  have e6 : ∀ y z, gi (si S k j f v) 6 y z = gi S 6 y z := fun y z => if_neg (fun q => nk_ne h (by decide) q.1)
  have e7 : ∀ y z, gi (si S k j f v) 7 y z = gi S 7 y z := fun y z => if_neg (fun q => nk_ne h (by decide) q.1)
  unfold CRs; simp only [e6, e7, gj_si, gr_si, gn_si]
  try rfl
theorem CRs_sj {S : St} {a : RS} {k j f : Nat} {v : Int64} (h : nk [6] k = true) : CRs (sj S k j f v) a = CRs S a := by
  have e6 : ∀ y z, gj (sj S k j f v) 6 y z = gj S 6 y z := fun y z => if_neg (fun q => nk_ne h (by decide) q.1)
  unfold CRs; simp only [e6, gi_sj, gr_sj, gn_sj]
  try rfl
theorem CRs_sr {S : St} {a : RS} {k j f : Nat} {v : Option Nat} (h : nk [] k = true) : CRs (sr S k j f v) a = CRs S a := by
  unfold CRs; simp only [gi_sr, gj_sr, gn_sr]
  try rfl
theorem CRs_sn {S : St} {a : RS} {k : Nat} (h : nk [6, 7] k = true) : CRs (sn S k) a = CRs S a := by
  have gi6 : ∀ y z, gi (sn S k) 6 y z = gi S 6 y z := fun y z => if_neg (fun q => nk_ne h (by decide) q.1)
  have gi7 : ∀ y z, gi (sn S k) 7 y z = gi S 7 y z := fun y z => if_neg (fun q => nk_ne h (by decide) q.1)
  have gj6 : ∀ y z, gj (sn S k) 6 y z = gj S 6 y z := fun y z => if_neg (fun q => nk_ne h (by decide) q.1)
  unfold CRs; simp only [gi6, gi7, gj6]
  try rfl
theorem CRr_si {S : St} {a : RS} {k j f : Nat} {v : Int32} (h : nk [2, 3] k = true) : CRr (si S k j f v) a = CRr S a := by
  have e2 : ∀ y z, gi (si S k j f v) 2 y z = gi S 2 y z := fun y z => if_neg (fun q => nk_ne h (by decide) q.1)
  have e3 : ∀ y z, gi (si S k j f v) 3 y z = gi S 3 y z := fun y z => if_neg (fun q => nk_ne h (by decide) q.1)
  unfold CRr; simp only [e2, e3, gj_si, gr_si, gn_si]
  try rfl
theorem CRr_sj {S : St} {a : RS} {k j f : Nat} {v : Int64} (h : nk [3] k = true) : CRr (sj S k j f v) a = CRr S a := by
  have e3 : ∀ y z, gj (sj S k j f v) 3 y z = gj S 3 y z := fun y z => if_neg (fun q => nk_ne h (by decide) q.1)
  unfold CRr; simp only [e3, gi_sj, gr_sj, gn_sj]
  try rfl
theorem CRr_sr {S : St} {a : RS} {k j f : Nat} {v : Option Nat} (h : nk [13] k = true) : CRr (sr S k j f v) a = CRr S a := by
  have e13 : ∀ y z, gr (sr S k j f v) 13 y z = gr S 13 y z := fun y z => if_neg (fun q => nk_ne h (by decide) q.1)
  unfold CRr; simp only [e13, gi_sr, gj_sr, gn_sr]
  try rfl
theorem CRr_sn {S : St} {a : RS} {k : Nat} (h : nk [2, 3, 13] k = true) : CRr (sn S k) a = CRr S a := by
  have gi2 : ∀ y z, gi (sn S k) 2 y z = gi S 2 y z := fun y z => if_neg (fun q => nk_ne h (by decide) q.1)
  have gi3 : ∀ y z, gi (sn S k) 3 y z = gi S 3 y z := fun y z => if_neg (fun q => nk_ne h (by decide) q.1)
  have gj3 : ∀ y z, gj (sn S k) 3 y z = gj S 3 y z := fun y z => if_neg (fun q => nk_ne h (by decide) q.1)
  have gr13 : ∀ y z, gr (sn S k) 13 y z = gr S 13 y z := fun y z => if_neg (fun q => nk_ne h (by decide) q.1)
  unfold CRr; simp only [gi2, gi3, gj3, gr13]
  try rfl
theorem CRc_wi {S : St} {a : RS} {ob : Nat} {k f : Nat} {v : Int32} (h : nf [0, 12, 23, 30] [] k f = true) : CRc S (wi a k f v) ob = CRc S a ob := by
  have f0 : qi (wi a k f v) 8 0 = qi a 8 0 := if_neg (nf_8 h (by decide))
  have f12 : qi (wi a k f v) 8 12 = qi a 8 12 := if_neg (nf_8 h (by decide))
  have f23 : qi (wi a k f v) 8 23 = qi a 8 23 := if_neg (nf_8 h (by decide))
  have f30 : qi (wi a k f v) 8 30 = qi a 8 30 := if_neg (nf_8 h (by decide))
  simp only [CRc, aL, aB, aD, aR, sT, lastA, prevA, f0, f12, f23, f30, qj_wi]
  try rfl
theorem CRc_wj {S : St} {a : RS} {ob : Nat} {k f : Nat} {v : Int64} (h : nf [] [] k f = true) : CRc S (wj a k f v) ob = CRc S a ob := by
  simp only [CRc, aL, aB, aD, aR, sT, lastA, prevA, qi_wj]
  try rfl
theorem CRl_wi {S : St} {a : RS} {k f : Nat} {v : Int32} (h : nf [0] [17, 20, 23, 24, 25, 27] k f = true) : CRl S (wi a k f v) = CRl S a := by
  have f0 : qi (wi a k f v) 8 0 = qi a 8 0 := if_neg (nf_8 h (by decide))
  have e17 : ∀ y, qi (wi a k f v) 17 y = qi a 17 y := fun y => if_neg (nf_ne h (by decide) (by decide))
  have e20 : ∀ y, qi (wi a k f v) 20 y = qi a 20 y := fun y => if_neg (nf_ne h (by decide) (by decide))
  have e23 : ∀ y, qi (wi a k f v) 23 y = qi a 23 y := fun y => if_neg (nf_ne h (by decide) (by decide))
  have e24 : ∀ y, qi (wi a k f v) 24 y = qi a 24 y := fun y => if_neg (nf_ne h (by decide) (by decide))
  have e25 : ∀ y, qi (wi a k f v) 25 y = qi a 25 y := fun y => if_neg (nf_ne h (by decide) (by decide))
  have e27 : ∀ y, qi (wi a k f v) 27 y = qi a 27 y := fun y => if_neg (nf_ne h (by decide) (by decide))
  simp only [CRl, aL, aB, aD, aR, sT, lastA, prevA, f0, e17, e20, e23, e24, e25, e27, qj_wi]
  try rfl
theorem CRl_wj {S : St} {a : RS} {k f : Nat} {v : Int64} (h : nf [] [18, 19] k f = true) : CRl S (wj a k f v) = CRl S a := by
  have e18 : ∀ y, qj (wj a k f v) 18 y = qj a 18 y := fun y => if_neg (nf_ne h (by decide) (by decide))
  have e19 : ∀ y, qj (wj a k f v) 19 y = qj a 19 y := fun y => if_neg (nf_ne h (by decide) (by decide))
  simp only [CRl, aL, aB, aD, aR, sT, lastA, prevA, e18, e19, qi_wj]
  try rfl
theorem CRt_wi {S : St} {a : RS} {k f : Nat} {v : Int32} (h : nf [0] [20, 21] k f = true) : CRt S (wi a k f v) = CRt S a := by
  have f0 : qi (wi a k f v) 8 0 = qi a 8 0 := if_neg (nf_8 h (by decide))
  have e20 : ∀ y, qi (wi a k f v) 20 y = qi a 20 y := fun y => if_neg (nf_ne h (by decide) (by decide))
  have e21 : ∀ y, qi (wi a k f v) 21 y = qi a 21 y := fun y => if_neg (nf_ne h (by decide) (by decide))
  simp only [CRt, aL, aB, aD, aR, sT, lastA, prevA, f0, e20, e21, qj_wi]
  try rfl
theorem CRt_wj {S : St} {a : RS} {k f : Nat} {v : Int64} (h : nf [] [22] k f = true) : CRt S (wj a k f v) = CRt S a := by
  have e22 : ∀ y, qj (wj a k f v) 22 y = qj a 22 y := fun y => if_neg (nf_ne h (by decide) (by decide))
  simp only [CRt, aL, aB, aD, aR, sT, lastA, prevA, e22, qi_wj]
  try rfl
theorem CRo_wi {S : St} {a : RS} {k f : Nat} {v : Int32} (h : nf [0] [20] k f = true) : CRo S (wi a k f v) = CRo S a := by
  have f0 : qi (wi a k f v) 8 0 = qi a 8 0 := if_neg (nf_8 h (by decide))
  have e20 : ∀ y, qi (wi a k f v) 20 y = qi a 20 y := fun y => if_neg (nf_ne h (by decide) (by decide))
  simp only [CRo, aL, aB, aD, aR, sT, lastA, prevA, f0, e20, qj_wi]
  try rfl
theorem CRo_wj {S : St} {a : RS} {k f : Nat} {v : Int64} (h : nf [] [26] k f = true) : CRo S (wj a k f v) = CRo S a := by
  have e26 : ∀ y, qj (wj a k f v) 26 y = qj a 26 y := fun y => if_neg (nf_ne h (by decide) (by decide))
  simp only [CRo, aL, aB, aD, aR, sT, lastA, prevA, e26, qi_wj]
  try rfl
theorem CRb_wi {S : St} {a : RS} {k f : Nat} {v : Int32} (h : nf [12] [] k f = true) : CRb S (wi a k f v) = CRb S a := by
  have f12 : qi (wi a k f v) 8 12 = qi a 8 12 := if_neg (nf_8 h (by decide))
  simp only [CRb, aL, aB, aD, aR, sT, lastA, prevA, f12, qj_wi]
  try rfl
theorem CRb_wj {S : St} {a : RS} {k f : Nat} {v : Int64} (h : nf [] [28, 29] k f = true) : CRb S (wj a k f v) = CRb S a := by
  have e28 : ∀ y, qj (wj a k f v) 28 y = qj a 28 y := fun y => if_neg (nf_ne h (by decide) (by decide))
  have e29 : ∀ y, qj (wj a k f v) 29 y = qj a 29 y := fun y => if_neg (nf_ne h (by decide) (by decide))
  simp only [CRb, aL, aB, aD, aR, sT, lastA, prevA, e28, e29, qi_wj]
  try rfl
theorem CRp_wi {S : St} {a : RS} {k f : Nat} {v : Int32} (h : nf [12, 17] [] k f = true) : CRp S (wi a k f v) = CRp S a := by
  have f12 : qi (wi a k f v) 8 12 = qi a 8 12 := if_neg (nf_8 h (by decide))
  have f17 : qi (wi a k f v) 8 17 = qi a 8 17 := if_neg (nf_8 h (by decide))
  simp only [CRp, aL, aB, aD, aR, sT, lastA, prevA, f12, f17, qj_wi]
  try rfl
theorem CRp_wj {S : St} {a : RS} {k f : Nat} {v : Int64} (h : nf [] [30] k f = true) : CRp S (wj a k f v) = CRp S a := by
  have e30 : ∀ y, qj (wj a k f v) 30 y = qj a 30 y := fun y => if_neg (nf_ne h (by decide) (by decide))
  simp only [CRp, aL, aB, aD, aR, sT, lastA, prevA, e30, qi_wj]
  try rfl
theorem CRk_wi {S : St} {a : RS} {k f : Nat} {v : Int32} (h : nf [17, 22] [] k f = true) : CRk S (wi a k f v) = CRk S a := by
  have f17 : qi (wi a k f v) 8 17 = qi a 8 17 := if_neg (nf_8 h (by decide))
  have f22 : qi (wi a k f v) 8 22 = qi a 8 22 := if_neg (nf_8 h (by decide))
  simp only [CRk, aL, aB, aD, aR, sT, lastA, prevA, f17, f22, qj_wi]
  try rfl
theorem CRk_wj {S : St} {a : RS} {k f : Nat} {v : Int64} (h : nf [20, 21, 19, 18, 16] [] k f = true) : CRk S (wj a k f v) = CRk S a := by
  have f20 : qj (wj a k f v) 8 20 = qj a 8 20 := if_neg (nf_8 h (by decide))
  have f21 : qj (wj a k f v) 8 21 = qj a 8 21 := if_neg (nf_8 h (by decide))
  have f19 : qj (wj a k f v) 8 19 = qj a 8 19 := if_neg (nf_8 h (by decide))
  have f18 : qj (wj a k f v) 8 18 = qj a 8 18 := if_neg (nf_8 h (by decide))
  have f16 : qj (wj a k f v) 8 16 = qj a 8 16 := if_neg (nf_8 h (by decide))
  simp only [CRk, aL, aB, aD, aR, sT, lastA, prevA, f20, f21, f19, f18, f16, qi_wj]
  try rfl
theorem CRd_wi {S : St} {a : RS} {ob : Nat} {k f : Nat} {v : Int32} (h : nf [23] [31] k f = true) : CRd S (wi a k f v) ob = CRd S a ob := by
  have f23 : qi (wi a k f v) 8 23 = qi a 8 23 := if_neg (nf_8 h (by decide))
  have e31 : ∀ y, qi (wi a k f v) 31 y = qi a 31 y := fun y => if_neg (nf_ne h (by decide) (by decide))
  simp only [CRd, aL, aB, aD, aR, sT, lastA, prevA, f23, e31, qj_wi]
  try rfl
theorem CRd_wj {S : St} {a : RS} {ob : Nat} {k f : Nat} {v : Int64} (h : nf [] [32, 33] k f = true) : CRd S (wj a k f v) ob = CRd S a ob := by
  have e32 : ∀ y, qj (wj a k f v) 32 y = qj a 32 y := fun y => if_neg (nf_ne h (by decide) (by decide))
  have e33 : ∀ y, qj (wj a k f v) 33 y = qj a 33 y := fun y => if_neg (nf_ne h (by decide) (by decide))
  simp only [CRd, aL, aB, aD, aR, sT, lastA, prevA, e32, e33, qi_wj]
  try rfl
theorem CRs_wi {S : St} {a : RS} {k f : Nat} {v : Int32} (h : nf [27, 29] [] k f = true) : CRs S (wi a k f v) = CRs S a := by
  have f27 : qi (wi a k f v) 8 27 = qi a 8 27 := if_neg (nf_8 h (by decide))
  have f29 : qi (wi a k f v) 8 29 = qi a 8 29 := if_neg (nf_8 h (by decide))
  simp only [CRs, aL, aB, aD, aR, sT, lastA, prevA, f27, f29, qj_wi]
  try rfl
theorem CRs_wj {S : St} {a : RS} {k f : Nat} {v : Int64} (h : nf [28] [] k f = true) : CRs S (wj a k f v) = CRs S a := by
  have f28 : qj (wj a k f v) 8 28 = qj a 8 28 := if_neg (nf_8 h (by decide))
  simp only [CRs, aL, aB, aD, aR, sT, lastA, prevA, f28, qi_wj]
  try rfl
theorem CRr_wi {S : St} {a : RS} {k f : Nat} {v : Int32} (h : nf [30] [34, 35, 36, 38] k f = true) : CRr S (wi a k f v) = CRr S a := by
  have f30 : qi (wi a k f v) 8 30 = qi a 8 30 := if_neg (nf_8 h (by decide))
  have e34 : ∀ y, qi (wi a k f v) 34 y = qi a 34 y := fun y => if_neg (nf_ne h (by decide) (by decide))
  have e35 : ∀ y, qi (wi a k f v) 35 y = qi a 35 y := fun y => if_neg (nf_ne h (by decide) (by decide))
  have e36 : ∀ y, qi (wi a k f v) 36 y = qi a 36 y := fun y => if_neg (nf_ne h (by decide) (by decide))
  have e38 : ∀ y, qi (wi a k f v) 38 y = qi a 38 y := fun y => if_neg (nf_ne h (by decide) (by decide))
  simp only [CRr, aL, aB, aD, aR, sT, lastA, prevA, f30, e34, e35, e36, e38, qj_wi]
  try rfl
theorem CRr_wj {S : St} {a : RS} {k f : Nat} {v : Int64} (h : nf [] [37] k f = true) : CRr S (wj a k f v) = CRr S a := by
  have e37 : ∀ y, qj (wj a k f v) 37 y = qj a 37 y := fun y => if_neg (nf_ne h (by decide) (by decide))
  simp only [CRr, aL, aB, aD, aR, sT, lastA, prevA, e37, qi_wj]
  try rfl
theorem OkC_wi {a : RS} {k f : Nat} {v : Int32} (h : nf [0, 12, 23, 30] [20, 24, 25] k f = true) : OkC (wi a k f v) = OkC a := by
  have f0 : qi (wi a k f v) 8 0 = qi a 8 0 := if_neg (nf_8 h (by decide))
  have f12 : qi (wi a k f v) 8 12 = qi a 8 12 := if_neg (nf_8 h (by decide))
  have f23 : qi (wi a k f v) 8 23 = qi a 8 23 := if_neg (nf_8 h (by decide))
  have f30 : qi (wi a k f v) 8 30 = qi a 8 30 := if_neg (nf_8 h (by decide))
  have e20 : ∀ y, qi (wi a k f v) 20 y = qi a 20 y := fun y => if_neg (nf_ne h (by decide) (by decide))
  have e24 : ∀ y, qi (wi a k f v) 24 y = qi a 24 y := fun y => if_neg (nf_ne h (by decide) (by decide))
  have e25 : ∀ y, qi (wi a k f v) 25 y = qi a 25 y := fun y => if_neg (nf_ne h (by decide) (by decide))
  have ec : ∀ n, capS (wi a k f v) n = capS a n := fun n => capS_c (fun i _ => capA_c (e20 i) (e24 i) (e25 i))
  simp only [OkC, aL, aB, aD, aR, sT, lastA, prevA, f0, f12, f23, f30, e20, e24, e25, ec, qj_wi]
  try rfl
theorem OkC_wj {a : RS} {k f : Nat} {v : Int64} (h : nf [] [] k f = true) : OkC (wj a k f v) = OkC a := by
  simp only [OkC, aL, aB, aD, aR, sT, lastA, prevA, capS_wj, qi_wj]
  try rfl
theorem OkL_wi {a : RS} {k f : Nat} {v : Int32} (h : nf [0] [20, 23, 24, 25] k f = true) : OkL (wi a k f v) = OkL a := by
  have f0 : qi (wi a k f v) 8 0 = qi a 8 0 := if_neg (nf_8 h (by decide))
  have e20 : ∀ y, qi (wi a k f v) 20 y = qi a 20 y := fun y => if_neg (nf_ne h (by decide) (by decide))
  have e23 : ∀ y, qi (wi a k f v) 23 y = qi a 23 y := fun y => if_neg (nf_ne h (by decide) (by decide))
  have e24 : ∀ y, qi (wi a k f v) 24 y = qi a 24 y := fun y => if_neg (nf_ne h (by decide) (by decide))
  have e25 : ∀ y, qi (wi a k f v) 25 y = qi a 25 y := fun y => if_neg (nf_ne h (by decide) (by decide))
  simp only [OkL, aL, aB, aD, aR, sT, lastA, prevA, f0, e20, e23, e24, e25, qj_wi]
  try rfl
theorem OkL_wj {a : RS} {k f : Nat} {v : Int64} (h : nf [] [18, 19] k f = true) : OkL (wj a k f v) = OkL a := by
  have e18 : ∀ y, qj (wj a k f v) 18 y = qj a 18 y := fun y => if_neg (nf_ne h (by decide) (by decide))
  have e19 : ∀ y, qj (wj a k f v) 19 y = qj a 19 y := fun y => if_neg (nf_ne h (by decide) (by decide))
  simp only [OkL, aL, aB, aD, aR, sT, lastA, prevA, e18, e19, qi_wj]
  try rfl
theorem OkT_wi {a : RS} {k f : Nat} {v : Int32} (h : nf [0] [20, 23] k f = true) : OkT (wi a k f v) = OkT a := by
  have f0 : qi (wi a k f v) 8 0 = qi a 8 0 := if_neg (nf_8 h (by decide))
  have e20 : ∀ y, qi (wi a k f v) 20 y = qi a 20 y := fun y => if_neg (nf_ne h (by decide) (by decide))
  have e23 : ∀ y, qi (wi a k f v) 23 y = qi a 23 y := fun y => if_neg (nf_ne h (by decide) (by decide))
  simp only [OkT, aL, aB, aD, aR, sT, lastA, prevA, f0, e20, e23, qj_wi]
  try rfl
theorem OkT_wj {a : RS} {k f : Nat} {v : Int64} (h : nf [] [22] k f = true) : OkT (wj a k f v) = OkT a := by
  have e22 : ∀ y, qj (wj a k f v) 22 y = qj a 22 y := fun y => if_neg (nf_ne h (by decide) (by decide))
  simp only [OkT, aL, aB, aD, aR, sT, lastA, prevA, e22, qi_wj]
  try rfl
theorem OkN_wi {a : RS} {k f : Nat} {v : Int32} (h : nf [0, 17, 22, 29] [20] k f = true) : OkN (wi a k f v) = OkN a := by
  have f0 : qi (wi a k f v) 8 0 = qi a 8 0 := if_neg (nf_8 h (by decide))
  have f17 : qi (wi a k f v) 8 17 = qi a 8 17 := if_neg (nf_8 h (by decide))
  have f22 : qi (wi a k f v) 8 22 = qi a 8 22 := if_neg (nf_8 h (by decide))
  have f29 : qi (wi a k f v) 8 29 = qi a 8 29 := if_neg (nf_8 h (by decide))
  have e20 : ∀ y, qi (wi a k f v) 20 y = qi a 20 y := fun y => if_neg (nf_ne h (by decide) (by decide))
  simp only [OkN, aL, aB, aD, aR, sT, lastA, prevA, f0, f17, f22, f29, e20, qj_wi]
  try rfl
theorem OkN_wj {a : RS} {k f : Nat} {v : Int64} (h : nf [18, 19, 20, 21] [] k f = true) : OkN (wj a k f v) = OkN a := by
  have f18 : qj (wj a k f v) 8 18 = qj a 8 18 := if_neg (nf_8 h (by decide))
  have f19 : qj (wj a k f v) 8 19 = qj a 8 19 := if_neg (nf_8 h (by decide))
  have f20 : qj (wj a k f v) 8 20 = qj a 8 20 := if_neg (nf_8 h (by decide))
  have f21 : qj (wj a k f v) 8 21 = qj a 8 21 := if_neg (nf_8 h (by decide))
  simp only [OkN, aL, aB, aD, aR, sT, lastA, prevA, f18, f19, f20, f21, qi_wj]
  try rfl
theorem OkB_wi {a : RS} {k f : Nat} {v : Int32} (h : nf [0, 12] [20, 21] k f = true) : OkB (wi a k f v) = OkB a := by
  have f0 : qi (wi a k f v) 8 0 = qi a 8 0 := if_neg (nf_8 h (by decide))
  have f12 : qi (wi a k f v) 8 12 = qi a 8 12 := if_neg (nf_8 h (by decide))
  have e20 : ∀ y, qi (wi a k f v) 20 y = qi a 20 y := fun y => if_neg (nf_ne h (by decide) (by decide))
  have e21 : ∀ y, qi (wi a k f v) 21 y = qi a 21 y := fun y => if_neg (nf_ne h (by decide) (by decide))
  have ec : ∀ b n, heldZ (wi a k f v) b n = heldZ a b n := fun b n => heldZ_c (fun i _ => hvZ_c (e20 i) (e21 i) rfl)
  simp only [OkB, aL, aB, aD, aR, sT, lastA, prevA, f0, f12, e20, e21, ec, qj_wi]
  try rfl
theorem OkB_wj {a : RS} {k f : Nat} {v : Int64} (h : nf [] [28, 29, 22] k f = true) : OkB (wj a k f v) = OkB a := by
  have e28 : ∀ y, qj (wj a k f v) 28 y = qj a 28 y := fun y => if_neg (nf_ne h (by decide) (by decide))
  have e29 : ∀ y, qj (wj a k f v) 29 y = qj a 29 y := fun y => if_neg (nf_ne h (by decide) (by decide))
  have e22 : ∀ y, qj (wj a k f v) 22 y = qj a 22 y := fun y => if_neg (nf_ne h (by decide) (by decide))
  have ec : ∀ b n, heldZ (wj a k f v) b n = heldZ a b n := fun b n => heldZ_c (fun i _ => hvZ_c rfl rfl (e22 i))
  simp only [OkB, aL, aB, aD, aR, sT, lastA, prevA, e28, e29, e22, ec, qi_wj]
  try rfl
theorem OkP_wi {a : RS} {k f : Nat} {v : Int32} (h : nf [12, 17] [] k f = true) : OkP (wi a k f v) = OkP a := by
  have f12 : qi (wi a k f v) 8 12 = qi a 8 12 := if_neg (nf_8 h (by decide))
  have f17 : qi (wi a k f v) 8 17 = qi a 8 17 := if_neg (nf_8 h (by decide))
  simp only [OkP, aL, aB, aD, aR, sT, lastA, prevA, f12, f17, qj_wi]
  try rfl
theorem OkP_wj {a : RS} {k f : Nat} {v : Int64} (h : nf [19] [30] k f = true) : OkP (wj a k f v) = OkP a := by
  have f19 : qj (wj a k f v) 8 19 = qj a 8 19 := if_neg (nf_8 h (by decide))
  have e30 : ∀ y, qj (wj a k f v) 30 y = qj a 30 y := fun y => if_neg (nf_ne h (by decide) (by decide))
  simp only [OkP, aL, aB, aD, aR, sT, lastA, prevA, f19, e30, qi_wj]
  try rfl
theorem OkD_wi {a : RS} {k f : Nat} {v : Int32} (h : nf [12, 23] [31] k f = true) : OkD (wi a k f v) = OkD a := by
  have f12 : qi (wi a k f v) 8 12 = qi a 8 12 := if_neg (nf_8 h (by decide))
  have f23 : qi (wi a k f v) 8 23 = qi a 8 23 := if_neg (nf_8 h (by decide))
  have e31 : ∀ y, qi (wi a k f v) 31 y = qi a 31 y := fun y => if_neg (nf_ne h (by decide) (by decide))
  simp only [OkD, aL, aB, aD, aR, sT, lastA, prevA, f12, f23, e31, qj_wi]
  try rfl
theorem OkD_wj {a : RS} {k f : Nat} {v : Int64} (h : nf [] [32] k f = true) : OkD (wj a k f v) = OkD a := by
  have e32 : ∀ y, qj (wj a k f v) 32 y = qj a 32 y := fun y => if_neg (nf_ne h (by decide) (by decide))
  simp only [OkD, aL, aB, aD, aR, sT, lastA, prevA, e32, qi_wj]
  try rfl
theorem OkZ_wi {a : RS} {k f : Nat} {v : Int32} (h : nf [0, 12] [20, 21, 23, 24, 25, 27] k f = true) : OkZ (wi a k f v) = OkZ a := by
  have f0 : qi (wi a k f v) 8 0 = qi a 8 0 := if_neg (nf_8 h (by decide))
  have f12 : qi (wi a k f v) 8 12 = qi a 8 12 := if_neg (nf_8 h (by decide))
  have e20 : ∀ y, qi (wi a k f v) 20 y = qi a 20 y := fun y => if_neg (nf_ne h (by decide) (by decide))
  have e21 : ∀ y, qi (wi a k f v) 21 y = qi a 21 y := fun y => if_neg (nf_ne h (by decide) (by decide))
  have e23 : ∀ y, qi (wi a k f v) 23 y = qi a 23 y := fun y => if_neg (nf_ne h (by decide) (by decide))
  have e24 : ∀ y, qi (wi a k f v) 24 y = qi a 24 y := fun y => if_neg (nf_ne h (by decide) (by decide))
  have e25 : ∀ y, qi (wi a k f v) 25 y = qi a 25 y := fun y => if_neg (nf_ne h (by decide) (by decide))
  have e27 : ∀ y, qi (wi a k f v) 27 y = qi a 27 y := fun y => if_neg (nf_ne h (by decide) (by decide))
  simp only [OkZ, aL, aB, aD, aR, sT, lastA, prevA, f0, f12, e20, e21, e23, e24, e25, e27, qj_wi]
  try rfl
theorem OkZ_wj {a : RS} {k f : Nat} {v : Int64} (h : nf [] [29] k f = true) : OkZ (wj a k f v) = OkZ a := by
  have e29 : ∀ y, qj (wj a k f v) 29 y = qj a 29 y := fun y => if_neg (nf_ne h (by decide) (by decide))
  simp only [OkZ, aL, aB, aD, aR, sT, lastA, prevA, e29, qi_wj]
  try rfl
theorem OkR_wi {a : RS} {k f : Nat} {v : Int32} (h : nf [30] [34, 35, 36, 38] k f = true) : OkR (wi a k f v) = OkR a := by
  have f30 : qi (wi a k f v) 8 30 = qi a 8 30 := if_neg (nf_8 h (by decide))
  have e34 : ∀ y, qi (wi a k f v) 34 y = qi a 34 y := fun y => if_neg (nf_ne h (by decide) (by decide))
  have e35 : ∀ y, qi (wi a k f v) 35 y = qi a 35 y := fun y => if_neg (nf_ne h (by decide) (by decide))
  have e36 : ∀ y, qi (wi a k f v) 36 y = qi a 36 y := fun y => if_neg (nf_ne h (by decide) (by decide))
  have e38 : ∀ y, qi (wi a k f v) 38 y = qi a 38 y := fun y => if_neg (nf_ne h (by decide) (by decide))
  simp only [OkR, aL, aB, aD, aR, sT, lastA, prevA, f30, e34, e35, e36, e38, qj_wi]
  try rfl
theorem OkR_wj {a : RS} {k f : Nat} {v : Int64} (h : nf [] [37] k f = true) : OkR (wj a k f v) = OkR a := by
  have e37 : ∀ y, qj (wj a k f v) 37 y = qj a 37 y := fun y => if_neg (nf_ne h (by decide) (by decide))
  simp only [OkR, aL, aB, aD, aR, sT, lastA, prevA, e37, qi_wj]
  try rfl
