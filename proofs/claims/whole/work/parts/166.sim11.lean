/-! ===== one lot more ===== -/
def addS (S : St) (n : Nat) (p : Int32) (g r : Int64) : St := si (sr (si (sr (sj (sj (si (si (sn S 5) 5 n 0 (nI n)) 5 n 1 p) 5 n 2 g) 5 n 3 r) 5 n 4 (some 0)) 5 n 5 (-1)) 10 0 n (some n)) 7 0 6 (nI (n + 1))
def addR (S : St) (n : Nat) (p : Int32) (g r : Int64) : St := si (si (sj (sj (si S 17 0 n p) 18 0 n g) 19 0 n r) 20 0 n 0) 8 0 0 (nI (n + 1))
def addA (a : RS) (p : Int32) (g r : Int64) : RS := wi (wi (wj (wj (wi a 17 (aL a) p) 18 (aL a) g) 19 (aL a) r) 20 (aL a) 0) 8 0 (nI (aL a + 1))
theorem key_addLot {S : St} {a : RS} {ob : Nat} {p : Int32} {g r : Int64} (h : CR S a ob) (hk : Ok a) (hL : aL a < 60) (i0 : 1 ≤ g.toInt) (i1 : g.toInt ≤ 1000000000) (i2 : 0 ≤ r.toInt) (i3 : r.toInt ≤ 1000000000) : CR (addS S (aL a) p g r) (addA a p g r) ob ∧ Ok (addA a p g r) := by
  have ec : (nI (aL a + 1)).toNatClampNeg = aL a + 1 := nI_clamp (by omega)
  have gn5 : gn S 5 = aL a := h.1.2.2.2.1
  unfold addS addA
  obtain ⟨hCRc, hCRl, hCRt, hCRo, hCRb, hCRp, hCRk, hCRd, hCRs, hCRr⟩ := h
  obtain ⟨hOkC, hOkL, hOkT, hOkN, hOkB, hOkP, hOkD, hOkZ, hOkR⟩ := hk
  refine ⟨⟨?_, ?_, ?_, ?_, ?_, ?_, ?_, ?_, ?_, ?_⟩, ?_, ?_, ?_, ?_, ?_, ?_, ?_, ?_, ?_⟩
  · (try simp (disch := simp [nf, nk]) only [CRc_wi, CRc_wj, CRc_si, CRc_sj, CRc_sr, CRc_sn])
    unfold CRc at *
    simp [qi_wi, qi_wj, qj_wi, qj_wj, gi_si, gi_sj, gi_sr, gj_si, gj_sj, gj_sr, gr_si, gr_sj, gr_sr, gn_si, gn_sj, gn_sr, gi_sn, gj_sn, gr_sn, gn_sn, aL_wi, aL_wj, aB_wi, aB_wj, aD_wi, aD_wj, aR_wi, aR_wj, sT_wi, sT_wj, lastA_wj, lastA_wi, prevA_wj, prevA_wi, ec]
    grind
  · (try simp (disch := simp [nf, nk]) only [CRl_wi, CRl_wj, CRl_si, CRl_sj, CRl_sr, CRl_sn])
    obtain ⟨z1, z2, z3, z4⟩ := hOkZ.1 (aL a) (Nat.le_refl _)
    intro i hi
    have hi : i < aL a + 1 := (by simpa [qi_wi, qi_wj, qj_wi, qj_wj, gi_si, gi_sj, gi_sr, gj_si, gj_sj, gj_sr, gr_si, gr_sj, gr_sr, gn_si, gn_sj, gn_sr, gi_sn, gj_sn, gr_sn, gn_sn, aL_wi, aL_wj, aB_wi, aB_wj, aD_wi, aD_wj, aR_wi, aR_wj, sT_wi, sT_wj, lastA_wj, lastA_wi, prevA_wj, prevA_wi, ec] using hi)
    rcases (show i < aL a ∨ i = aL a by omega) with q | rfl
    · have ne : i ≠ aL a := (by omega)
      simp [qi_wi, qi_wj, qj_wi, qj_wj, gi_si, gi_sj, gi_sr, gj_si, gj_sj, gj_sr, gr_si, gr_sj, gr_sr, gn_si, gn_sj, gn_sr, gi_sn, gj_sn, gr_sn, gn_sn, aL_wi, aL_wj, aB_wi, aB_wj, aD_wi, aD_wj, aR_wi, aR_wj, sT_wi, sT_wj, lastA_wj, lastA_wi, prevA_wj, prevA_wi, ne, gn5]; exact hCRl i q
    · simp [qi_wi, qi_wj, qj_wi, qj_wj, gi_si, gi_sj, gi_sr, gj_si, gj_sj, gj_sr, gr_si, gr_sj, gr_sr, gn_si, gn_sj, gn_sr, gi_sn, gj_sn, gr_sn, gn_sn, aL_wi, aL_wj, aB_wi, aB_wj, aD_wi, aD_wj, aR_wi, aR_wj, sT_wi, sT_wj, lastA_wj, lastA_wi, prevA_wj, prevA_wi, gn5, z1, z2, z3, z4, show (0 : Int32).toNatClampNeg = 0 from rfl]
  · (try simp (disch := simp [nf, nk]) only [CRt_wi, CRt_wj, CRt_si, CRt_sj, CRt_sr, CRt_sn])
    intro i hi
    have hi : i < aL a + 1 := (by simpa [qi_wi, qi_wj, qj_wi, qj_wj, gi_si, gi_sj, gi_sr, gj_si, gj_sj, gj_sr, gr_si, gr_sj, gr_sr, gn_si, gn_sj, gn_sr, gi_sn, gj_sn, gr_sn, gn_sn, aL_wi, aL_wj, aB_wi, aB_wj, aD_wi, aD_wj, aR_wi, aR_wj, sT_wi, sT_wj, lastA_wj, lastA_wi, prevA_wj, prevA_wi, ec] using hi)
    rcases (show i < aL a ∨ i = aL a by omega) with q | rfl
    · have ne : i ≠ aL a := (by omega)
      simp [qi_wi, qi_wj, qj_wi, qj_wj, gi_si, gi_sj, gi_sr, gj_si, gj_sj, gj_sr, gr_si, gr_sj, gr_sr, gn_si, gn_sj, gn_sr, gi_sn, gj_sn, gr_sn, gn_sn, aL_wi, aL_wj, aB_wi, aB_wj, aD_wi, aD_wj, aR_wi, aR_wj, sT_wi, sT_wj, lastA_wj, lastA_wi, prevA_wj, prevA_wi, ne, gn5]; exact hCRt i q
    · simp [qi_wi, qi_wj, qj_wi, qj_wj, gi_si, gi_sj, gi_sr, gj_si, gj_sj, gj_sr, gr_si, gr_sj, gr_sr, gn_si, gn_sj, gn_sr, gi_sn, gj_sn, gr_sn, gn_sn, aL_wi, aL_wj, aB_wi, aB_wj, aD_wi, aD_wj, aR_wi, aR_wj, sT_wi, sT_wj, lastA_wj, lastA_wi, prevA_wj, prevA_wi, show (0 : Int32).toNatClampNeg = 0 from rfl]
  · (try simp (disch := simp [nf, nk]) only [CRo_wi, CRo_wj, CRo_si, CRo_sj, CRo_sr, CRo_sn])
    intro i hi
    have hi : i < aL a + 1 := (by simpa [qi_wi, qi_wj, qj_wi, qj_wj, gi_si, gi_sj, gi_sr, gj_si, gj_sj, gj_sr, gr_si, gr_sj, gr_sr, gn_si, gn_sj, gn_sr, gi_sn, gj_sn, gr_sn, gn_sn, aL_wi, aL_wj, aB_wi, aB_wj, aD_wi, aD_wj, aR_wi, aR_wj, sT_wi, sT_wj, lastA_wj, lastA_wi, prevA_wj, prevA_wi, ec] using hi)
    rcases (show i < aL a ∨ i = aL a by omega) with q | rfl
    · have ne : i ≠ aL a := (by omega)
      simp [qi_wi, qi_wj, qj_wi, qj_wj, gi_si, gi_sj, gi_sr, gj_si, gj_sj, gj_sr, gr_si, gr_sj, gr_sr, gn_si, gn_sj, gn_sr, gi_sn, gj_sn, gr_sn, gn_sn, aL_wi, aL_wj, aB_wi, aB_wj, aD_wi, aD_wj, aR_wi, aR_wj, sT_wi, sT_wj, lastA_wj, lastA_wi, prevA_wj, prevA_wi, ne, gn5]; exact hCRo i q
    · simp [qi_wi, qi_wj, qj_wi, qj_wj, gi_si, gi_sj, gi_sr, gj_si, gj_sj, gj_sr, gr_si, gr_sj, gr_sr, gn_si, gn_sj, gn_sr, gi_sn, gj_sn, gr_sn, gn_sn, aL_wi, aL_wj, aB_wi, aB_wj, aD_wi, aD_wj, aR_wi, aR_wj, sT_wi, sT_wj, lastA_wj, lastA_wi, prevA_wj, prevA_wi, show (0 : Int32).toNatClampNeg = 0 from rfl]
  · (simp (disch := simp [nf, nk]) only [CRb_wi, CRb_wj, CRb_si, CRb_sj, CRb_sr, CRb_sn]; exact hCRb)
  · (simp (disch := simp [nf, nk]) only [CRp_wi, CRp_wj, CRp_si, CRp_sj, CRp_sr, CRp_sn]; exact hCRp)
  · (simp (disch := simp [nf, nk]) only [CRk_wi, CRk_wj, CRk_si, CRk_sj, CRk_sr, CRk_sn]; exact hCRk)
  · (simp (disch := simp [nf, nk]) only [CRd_wi, CRd_wj, CRd_si, CRd_sj, CRd_sr, CRd_sn]; exact hCRd)
  · (simp (disch := simp [nf, nk]) only [CRs_wi, CRs_wj, CRs_si, CRs_sj, CRs_sr, CRs_sn]; exact hCRs)
  · (simp (disch := simp [nf, nk]) only [CRr_wi, CRr_wj, CRr_si, CRr_sj, CRr_sr, CRr_sn]; exact hCRr)
  · (try simp (disch := simp [nf, nk]) only [OkC_wi, OkC_wj])
    obtain ⟨c1, c2, c3, c4, c5, c6, c7, c8⟩ := hOkC
    refine ⟨by simp [qi_wi, qi_wj, qj_wi, qj_wj, gi_si, gi_sj, gi_sr, gj_si, gj_sj, gj_sr, gr_si, gr_sj, gr_sr, gn_si, gn_sj, gn_sr, gi_sn, gj_sn, gr_sn, gn_sn, aL_wi, aL_wj, aB_wi, aB_wj, aD_wi, aD_wj, aR_wi, aR_wj, sT_wi, sT_wj, lastA_wj, lastA_wi, prevA_wj, prevA_wi, ec], by simp [qi_wi, qi_wj, qj_wi, qj_wj, gi_si, gi_sj, gi_sr, gj_si, gj_sj, gj_sr, gr_si, gr_sj, gr_sr, gn_si, gn_sj, gn_sr, gi_sn, gj_sn, gr_sn, gn_sn, aL_wi, aL_wj, aB_wi, aB_wj, aD_wi, aD_wj, aR_wi, aR_wj, sT_wi, sT_wj, lastA_wj, lastA_wi, prevA_wj, prevA_wi, ec]; omega, by simpa [qi_wi, qi_wj, qj_wi, qj_wj, gi_si, gi_sj, gi_sr, gj_si, gj_sj, gj_sr, gr_si, gr_sj, gr_sr, gn_si, gn_sj, gn_sr, gi_sn, gj_sn, gr_sn, gn_sn, aL_wi, aL_wj, aB_wi, aB_wj, aD_wi, aD_wj, aR_wi, aR_wj, sT_wi, sT_wj, lastA_wj, lastA_wi, prevA_wj, prevA_wi, capS_wj, capS_wi] using c3, by simpa [qi_wi, qi_wj, qj_wi, qj_wj, gi_si, gi_sj, gi_sr, gj_si, gj_sj, gj_sr, gr_si, gr_sj, gr_sr, gn_si, gn_sj, gn_sr, gi_sn, gj_sn, gr_sn, gn_sn, aL_wi, aL_wj, aB_wi, aB_wj, aD_wi, aD_wj, aR_wi, aR_wj, sT_wi, sT_wj, lastA_wj, lastA_wi, prevA_wj, prevA_wi, capS_wj, capS_wi] using c4, by simpa [qi_wi, qi_wj, qj_wi, qj_wj, gi_si, gi_sj, gi_sr, gj_si, gj_sj, gj_sr, gr_si, gr_sj, gr_sr, gn_si, gn_sj, gn_sr, gi_sn, gj_sn, gr_sn, gn_sn, aL_wi, aL_wj, aB_wi, aB_wj, aD_wi, aD_wj, aR_wi, aR_wj, sT_wi, sT_wj, lastA_wj, lastA_wi, prevA_wj, prevA_wi, capS_wj, capS_wi] using c5, by simpa [qi_wi, qi_wj, qj_wi, qj_wj, gi_si, gi_sj, gi_sr, gj_si, gj_sj, gj_sr, gr_si, gr_sj, gr_sr, gn_si, gn_sj, gn_sr, gi_sn, gj_sn, gr_sn, gn_sn, aL_wi, aL_wj, aB_wi, aB_wj, aD_wi, aD_wj, aR_wi, aR_wj, sT_wi, sT_wj, lastA_wj, lastA_wi, prevA_wj, prevA_wi, capS_wj, capS_wi] using c6, by simpa [qi_wi, qi_wj, qj_wi, qj_wj, gi_si, gi_sj, gi_sr, gj_si, gj_sj, gj_sr, gr_si, gr_sj, gr_sr, gn_si, gn_sj, gn_sr, gi_sn, gj_sn, gr_sn, gn_sn, aL_wi, aL_wj, aB_wi, aB_wj, aD_wi, aD_wj, aR_wi, aR_wj, sT_wi, sT_wj, lastA_wj, lastA_wi, prevA_wj, prevA_wi, capS_wj, capS_wi] using c7, ?_⟩
    have e : capS (wi (wi (wj (wj (wi a 17 (aL a) p) 18 (aL a) g) 19 (aL a) r) 20 (aL a) 0) 8 0 (nI (aL a + 1))) (aL a) = capS a (aL a) := capS_c (fun i hi => capA_c (by simp [qi_wi, qi_wj, qj_wi, qj_wj, gi_si, gi_sj, gi_sr, gj_si, gj_sj, gj_sr, gr_si, gr_sj, gr_sr, gn_si, gn_sj, gn_sr, gi_sn, gj_sn, gr_sn, gn_sn, aL_wi, aL_wj, aB_wi, aB_wj, aD_wi, aD_wj, aR_wi, aR_wj, sT_wi, sT_wj, lastA_wj, lastA_wi, prevA_wj, prevA_wi, capS_wj, capS_wi]; omega) (by simp [qi_wi, qi_wj, qj_wi, qj_wj, gi_si, gi_sj, gi_sr, gj_si, gj_sj, gj_sr, gr_si, gr_sj, gr_sr, gn_si, gn_sj, gn_sr, gi_sn, gj_sn, gr_sn, gn_sn, aL_wi, aL_wj, aB_wi, aB_wj, aD_wi, aD_wj, aR_wi, aR_wj, sT_wi, sT_wj, lastA_wj, lastA_wi, prevA_wj, prevA_wi, capS_wj, capS_wi]) (by simp [qi_wi, qi_wj, qj_wi, qj_wj, gi_si, gi_sj, gi_sr, gj_si, gj_sj, gj_sr, gr_si, gr_sj, gr_sr, gn_si, gn_sj, gn_sr, gi_sn, gj_sn, gr_sn, gn_sn, aL_wi, aL_wj, aB_wi, aB_wj, aD_wi, aD_wj, aR_wi, aR_wj, sT_wi, sT_wj, lastA_wj, lastA_wi, prevA_wj, prevA_wi, capS_wj, capS_wi]))
    simp only [aL_wi, aR_wi, aR_wj]
    simp [ec]
    simp only [capS]
    omega
  · (try simp (disch := simp [nf, nk]) only [OkL_wi, OkL_wj])
    obtain ⟨z1, z2, z3, z4⟩ := hOkZ.1 (aL a) (Nat.le_refl _)
    intro i hi
    have hi : i < aL a + 1 := (by simpa [qi_wi, qi_wj, qj_wi, qj_wj, gi_si, gi_sj, gi_sr, gj_si, gj_sj, gj_sr, gr_si, gr_sj, gr_sr, gn_si, gn_sj, gn_sr, gi_sn, gj_sn, gr_sn, gn_sn, aL_wi, aL_wj, aB_wi, aB_wj, aD_wi, aD_wj, aR_wi, aR_wj, sT_wi, sT_wj, lastA_wj, lastA_wi, prevA_wj, prevA_wi, ec] using hi)
    rcases (show i < aL a ∨ i = aL a by omega) with q | rfl
    · have ne : i ≠ aL a := (by omega)
      simp [qi_wi, qi_wj, qj_wi, qj_wj, gi_si, gi_sj, gi_sr, gj_si, gj_sj, gj_sr, gr_si, gr_sj, gr_sr, gn_si, gn_sj, gn_sr, gi_sn, gj_sn, gr_sn, gn_sn, aL_wi, aL_wj, aB_wi, aB_wj, aD_wi, aD_wj, aR_wi, aR_wj, sT_wi, sT_wj, lastA_wj, lastA_wi, prevA_wj, prevA_wi, ne]; exact hOkL i q
    · simp [qi_wi, qi_wj, qj_wi, qj_wj, gi_si, gi_sj, gi_sr, gj_si, gj_sj, gj_sr, gr_si, gr_sj, gr_sr, gn_si, gn_sj, gn_sr, gi_sn, gj_sn, gr_sn, gn_sn, aL_wi, aL_wj, aB_wi, aB_wj, aD_wi, aD_wj, aR_wi, aR_wj, sT_wi, sT_wj, lastA_wj, lastA_wi, prevA_wj, prevA_wi, show (0 : Int32).toNatClampNeg = 0 from rfl, z1, z2, z3]; first | omega | exact ⟨rfl, i0, i1, i2, i3⟩ | grind
  · (try simp (disch := simp [nf, nk]) only [OkT_wi, OkT_wj])
    obtain ⟨z1, z2, z3, z4⟩ := hOkZ.1 (aL a) (Nat.le_refl _)
    intro i hi
    have hi : i < aL a + 1 := (by simpa [qi_wi, qi_wj, qj_wi, qj_wj, gi_si, gi_sj, gi_sr, gj_si, gj_sj, gj_sr, gr_si, gr_sj, gr_sr, gn_si, gn_sj, gn_sr, gi_sn, gj_sn, gr_sn, gn_sn, aL_wi, aL_wj, aB_wi, aB_wj, aD_wi, aD_wj, aR_wi, aR_wj, sT_wi, sT_wj, lastA_wj, lastA_wi, prevA_wj, prevA_wi, ec] using hi)
    rcases (show i < aL a ∨ i = aL a by omega) with q | rfl
    · have ne : i ≠ aL a := (by omega)
      simp [qi_wi, qi_wj, qj_wi, qj_wj, gi_si, gi_sj, gi_sr, gj_si, gj_sj, gj_sr, gr_si, gr_sj, gr_sr, gn_si, gn_sj, gn_sr, gi_sn, gj_sn, gr_sn, gn_sn, aL_wi, aL_wj, aB_wi, aB_wj, aD_wi, aD_wj, aR_wi, aR_wj, sT_wi, sT_wj, lastA_wj, lastA_wi, prevA_wj, prevA_wi, ne]; exact hOkT i q
    · simp [qi_wi, qi_wj, qj_wi, qj_wj, gi_si, gi_sj, gi_sr, gj_si, gj_sj, gj_sr, gr_si, gr_sj, gr_sr, gn_si, gn_sj, gn_sr, gi_sn, gj_sn, gr_sn, gn_sn, aL_wi, aL_wj, aB_wi, aB_wj, aD_wi, aD_wj, aR_wi, aR_wj, sT_wi, sT_wj, lastA_wj, lastA_wi, prevA_wj, prevA_wi, show (0 : Int32).toNatClampNeg = 0 from rfl, z1]
  · (try simp (disch := simp [nf, nk]) only [OkN_wi, OkN_wj])
    unfold OkN at *
    simp [qi_wi, qi_wj, qj_wi, qj_wj, gi_si, gi_sj, gi_sr, gj_si, gj_sj, gj_sr, gr_si, gr_sj, gr_sr, gn_si, gn_sj, gn_sr, gi_sn, gj_sn, gr_sn, gn_sn, aL_wi, aL_wj, aB_wi, aB_wj, aD_wi, aD_wj, aR_wi, aR_wj, sT_wi, sT_wj, lastA_wj, lastA_wi, prevA_wj, prevA_wi, ec]
    refine ⟨hOkN.1, hOkN.2.1, hOkN.2.2.imp id ?_⟩
    rintro ⟨i, q, q1, q2, q3⟩
    exact ⟨i, by omega, q1, by rw [if_neg (by omega)]; exact q2, q3⟩
  · (try simp (disch := simp [nf, nk]) only [OkB_wi, OkB_wj])
    intro b hb
    have e : ∀ x, heldZ x b (aL a + 1) = heldZ x b (aL a) + hvZ x b (aL a) := fun x => rfl
    have e2 : heldZ (wi (wi (wj (wj (wi a 17 (aL a) p) 18 (aL a) g) 19 (aL a) r) 20 (aL a) 0) 8 0 (nI (aL a + 1))) b (aL a) = heldZ a b (aL a) := heldZ_c (fun i hi => hvZ_c (by simp [qi_wi, qi_wj, qj_wi, qj_wj, gi_si, gi_sj, gi_sr, gj_si, gj_sj, gj_sr, gr_si, gr_sj, gr_sr, gn_si, gn_sj, gn_sr, gi_sn, gj_sn, gr_sn, gn_sn, aL_wi, aL_wj, aB_wi, aB_wj, aD_wi, aD_wj, aR_wi, aR_wj, sT_wi, sT_wj, lastA_wj, lastA_wi, prevA_wj, prevA_wi, heldZ_wj, heldZ_wi]; omega) (by simp [qi_wi, qi_wj, qj_wi, qj_wj, gi_si, gi_sj, gi_sr, gj_si, gj_sj, gj_sr, gr_si, gr_sj, gr_sr, gn_si, gn_sj, gn_sr, gi_sn, gj_sn, gr_sn, gn_sn, aL_wi, aL_wj, aB_wi, aB_wj, aD_wi, aD_wj, aR_wi, aR_wj, sT_wi, sT_wj, lastA_wj, lastA_wi, prevA_wj, prevA_wi, heldZ_wj, heldZ_wi]) (by simp [qi_wi, qi_wj, qj_wi, qj_wj, gi_si, gi_sj, gi_sr, gj_si, gj_sj, gj_sr, gr_si, gr_sj, gr_sr, gn_si, gn_sj, gn_sr, gi_sn, gj_sn, gr_sn, gn_sn, aL_wi, aL_wj, aB_wi, aB_wj, aD_wi, aD_wj, aR_wi, aR_wj, sT_wi, sT_wj, lastA_wj, lastA_wi, prevA_wj, prevA_wi, heldZ_wj, heldZ_wi]))
    have e3 : hvZ (wi (wi (wj (wj (wi a 17 (aL a) p) 18 (aL a) g) 19 (aL a) r) 20 (aL a) 0) 8 0 (nI (aL a + 1))) b (aL a) = 0 := (by unfold hvZ; simp [qi_wi, qi_wj, qj_wi, qj_wj, gi_si, gi_sj, gi_sr, gj_si, gj_sj, gj_sr, gr_si, gr_sj, gr_sr, gn_si, gn_sj, gn_sr, gi_sn, gj_sn, gr_sn, gn_sn, aL_wi, aL_wj, aB_wi, aB_wj, aD_wi, aD_wj, aR_wi, aR_wj, sT_wi, sT_wj, lastA_wj, lastA_wi, prevA_wj, prevA_wi, show (0 : Int32).toNatClampNeg = 0 from rfl])
    have := hOkB b (by simpa [qi_wi, qi_wj, qj_wi, qj_wj, gi_si, gi_sj, gi_sr, gj_si, gj_sj, gj_sr, gr_si, gr_sj, gr_sr, gn_si, gn_sj, gn_sr, gi_sn, gj_sn, gr_sn, gn_sn, aL_wi, aL_wj, aB_wi, aB_wj, aD_wi, aD_wj, aR_wi, aR_wj, sT_wi, sT_wj, lastA_wj, lastA_wi, prevA_wj, prevA_wi, heldZ_wj, heldZ_wi] using hb)
    simp only [aL_wi]
    simp [qi_wi, qi_wj, qj_wi, qj_wj, gi_si, gi_sj, gi_sr, gj_si, gj_sj, gj_sr, gr_si, gr_sj, gr_sr, gn_si, gn_sj, gn_sr, gi_sn, gj_sn, gr_sn, gn_sn, aL_wi, aL_wj, aB_wi, aB_wj, aD_wi, aD_wj, aR_wi, aR_wj, sT_wi, sT_wj, lastA_wj, lastA_wi, prevA_wj, prevA_wi, ec, e, e2, e3]
    exact this
  · (simp (disch := simp [nf, nk]) only [OkP_wi, OkP_wj]; exact hOkP)
  · (simp (disch := simp [nf, nk]) only [OkD_wi, OkD_wj]; exact hOkD)
  · (try simp (disch := simp [nf, nk]) only [OkZ_wi, OkZ_wj])
    refine ⟨fun i hi => ?_, by simpa [qi_wi, qi_wj, qj_wi, qj_wj, gi_si, gi_sj, gi_sr, gj_si, gj_sj, gj_sr, gr_si, gr_sj, gr_sr, gn_si, gn_sj, gn_sr, gi_sn, gj_sn, gr_sn, gn_sn, aL_wi, aL_wj, aB_wi, aB_wj, aD_wi, aD_wj, aR_wi, aR_wj, sT_wi, sT_wj, lastA_wj, lastA_wi, prevA_wj, prevA_wi] using hOkZ.2.1, fun i hi => ?_⟩
    · have := hOkZ.1 i (by have : aL a + 1 ≤ i := (by simpa [qi_wi, qi_wj, qj_wi, qj_wj, gi_si, gi_sj, gi_sr, gj_si, gj_sj, gj_sr, gr_si, gr_sj, gr_sr, gn_si, gn_sj, gn_sr, gi_sn, gj_sn, gr_sn, gn_sn, aL_wi, aL_wj, aB_wi, aB_wj, aD_wi, aD_wj, aR_wi, aR_wj, sT_wi, sT_wj, lastA_wj, lastA_wi, prevA_wj, prevA_wi, ec] using hi); omega)
      simpa [qi_wi, qi_wj, qj_wi, qj_wj, gi_si, gi_sj, gi_sr, gj_si, gj_sj, gj_sr, gr_si, gr_sj, gr_sr, gn_si, gn_sj, gn_sr, gi_sn, gj_sn, gr_sn, gn_sn, aL_wi, aL_wj, aB_wi, aB_wj, aD_wi, aD_wj, aR_wi, aR_wj, sT_wi, sT_wj, lastA_wj, lastA_wi, prevA_wj, prevA_wi] using this
    · have hi : i < aL a + 1 := (by simpa [qi_wi, qi_wj, qj_wi, qj_wj, gi_si, gi_sj, gi_sr, gj_si, gj_sj, gj_sr, gr_si, gr_sj, gr_sr, gn_si, gn_sj, gn_sr, gi_sn, gj_sn, gr_sn, gn_sn, aL_wi, aL_wj, aB_wi, aB_wj, aD_wi, aD_wj, aR_wi, aR_wj, sT_wi, sT_wj, lastA_wj, lastA_wi, prevA_wj, prevA_wi, ec] using hi)
      rcases (show i < aL a ∨ i = aL a by omega) with q | rfl
      · have ne : i ≠ aL a := (by omega)
        simp [qi_wi, qi_wj, qj_wi, qj_wj, gi_si, gi_sj, gi_sr, gj_si, gj_sj, gj_sr, gr_si, gr_sj, gr_sr, gn_si, gn_sj, gn_sr, gi_sn, gj_sn, gr_sn, gn_sn, aL_wi, aL_wj, aB_wi, aB_wj, aD_wi, aD_wj, aR_wi, aR_wj, sT_wi, sT_wj, lastA_wj, lastA_wi, prevA_wj, prevA_wi, ne]; exact hOkZ.2.2 i q
      · simp [qi_wi, qi_wj, qj_wi, qj_wj, gi_si, gi_sj, gi_sr, gj_si, gj_sj, gj_sr, gr_si, gr_sj, gr_sr, gn_si, gn_sj, gn_sr, gi_sn, gj_sn, gr_sn, gn_sn, aL_wi, aL_wj, aB_wi, aB_wj, aD_wi, aD_wj, aR_wi, aR_wj, sT_wi, sT_wj, lastA_wj, lastA_wi, prevA_wj, prevA_wi, show (0 : Int32).toNatClampNeg = 0 from rfl]
  · (simp (disch := simp [nf, nk]) only [OkR_wi, OkR_wj]; exact hOkR)
theorem share_le {x y G : Int} (hx : 0 ≤ x) (hy : y ≤ G) (hG : 1 ≤ G) : (x * y + G - 1) / G ≤ x := by
  have h1 : x * y ≤ x * G := Int.mul_le_mul_of_nonneg_left hy hx
  have h2 : (x * y + G - 1) / G < x + 1 := by
    apply Int.ediv_lt_of_lt_mul (by omega)
    rw [Int.add_mul]; omega
  omega
theorem share_Z {X Y G : Int64} (x0 : 0 ≤ X.toInt) (x1 : X.toInt ≤ 1000000000) (y0 : 1 ≤ Y.toInt) (y1 : Y.toInt ≤ G.toInt) (g1 : G.toInt ≤ 1000000000) : 0 ≤ ((X * Y + G - (1 : Int64)) / G).toInt ∧ ((X * Y + G - (1 : Int64)) / G).toInt ≤ X.toInt := by
  have m0 : 0 ≤ X.toInt * Y.toInt := Int.mul_nonneg x0 (by omega)
  have m1 : X.toInt * Y.toInt ≤ 1000000000 * 1000000000 := Int.mul_le_mul x1 (by omega) (by omega) (by omega)
  have em : (X * Y).toInt = X.toInt * Y.toInt := j_mul (by omega) (by omega)
  have ea : (X * Y + G).toInt = X.toInt * Y.toInt + G.toInt := by rw [← em]; exact j_add (by omega) (by omega)
  have es : (X * Y + G - (1 : Int64)).toInt = X.toInt * Y.toInt + G.toInt - 1 := by
    rw [← ea]; exact j_sub (y := 1) (by rw [show (1 : Int64).toInt = 1 from rfl]; omega) (by rw [show (1 : Int64).toInt = 1 from rfl]; omega)
  have ed : ((X * Y + G - (1 : Int64)) / G).toInt = (X.toInt * Y.toInt + G.toInt - 1) / G.toInt := by rw [← es]; exact j_div (by omega) (by omega)
  rw [ed]
  exact ⟨Int.ediv_nonneg (by omega) (by omega), share_le x0 y1 (by omega)⟩
def partA (a : RS) (i : Nat) (c w : Int64) : RS := wi (wj (wj a 22 i c) 18 i w) 24 i 1
theorem part_q {a : RS} {i : Nat} {c w : Int64} : qj (partA a i c w) 22 i = c ∧ qj (partA a i c w) 18 i = w ∧ qi (partA a i c w) 24 i = 1 := by
  unfold partA
  refine ⟨?_, ?_, ?_⟩
  · rw [qj_wi, qj_wj, if_neg (by omega), qj_wj, if_pos ⟨rfl, rfl⟩]
  · rw [qj_wi, qj_wj, if_pos ⟨rfl, rfl⟩]
  · rw [qi_wi, if_pos ⟨rfl, rfl⟩]
theorem part_sa {a : RS} {i : Nat} {c w : Int64} : SA a (partA a i c w) i := SA.i (SA.j (SA.j SA.rf (by omega)) (by omega)) (by omega)
theorem part_s {a : RS} {i : Nat} {c w : Int64} : sT (partA a i c w) i = sT a i ∧ qi (partA a i c w) 20 i = qi a 20 i ∧ qi (partA a i c w) 21 i = qi a 21 i ∧ qi (partA a i c w) 23 i = qi a 23 i ∧ qi (partA a i c w) 25 i = qi a 25 i ∧ qj (partA a i c w) 19 i = qj a 19 i := by
  refine ⟨rfl, rfl, rfl, rfl, rfl, ?_⟩
  unfold partA
  rw [qj_wi, qj_wj, if_neg (by omega), qj_wj, if_neg (by omega)]
theorem Ok.part {a : RS} (h : Ok a) {i : Nat} {c w : Int64} (hi : i < aL a) (hs : sT a i = 3) (c0 : 0 ≤ c.toInt) (c1 : c.toInt ≤ (qj a 22 i).toInt) (h23 : qi a 23 i = 1) (w0 : 1 ≤ w.toInt) (w1 : w.toInt ≤ 1000000000) : Ok (partA a i c w) := by
  have okl := h.2.1 i hi
  obtain ⟨e1, e2, e3⟩ := part_q (a := a) (i := i) (c := c) (w := w)
  obtain ⟨f1, f2, f3, f4, f5, f6⟩ := part_s (a := a) (i := i) (c := c) (w := w)
  have hp := ((h.2.2.1 i hi).2 h23).2
  refine Ok.lot h hi part_sa (h.on1 hi (by omega)) ?_ ?_ ?_ ?_ ?_
  · rw [f1, f2, f4, e3, f5, e2, f6]
    exact ⟨okl.1, okl.2.1, okl.2.2.1, Or.inr rfl, okl.2.2.2.2.1, w0, w1, okl.2.2.2.2.2.2.2.1, okl.2.2.2.2.2.2.2.2⟩
  · rw [f1, e1]
    exact ⟨fun _ => c0, fun _ => ⟨hs, by omega⟩⟩
  · intro _
    rw [f3]
    exact h.2.2.2.2.2.2.2.1.2.2 i hi (Or.inr hs)
  · intro b hb
    rw [hvZ_on (a := a) (Or.inl hs), hvZ_on (a := partA a i c w) (Or.inl (f1.trans hs)), f3, e1]
    have := (h.2.2.2.2.1 b hb).2.2.2.2
    split <;> omega
  · unfold capA
    rw [f1, e3, f5, hs]
    simp
    split <;> omega
theorem cap_part {a : RS} (h : Ok a) {i : Nat} {c w : Int64} (hi : i < aL a) (hs : sT a i = 3) (h24 : qi a 24 i = 0) : aR a < capS (partA a i c w) (aL a) := by
  obtain ⟨e1, e2, e3⟩ := part_q (a := a) (i := i) (c := c) (w := w)
  obtain ⟨f1, f2, f3, f4, f5, f6⟩ := part_s (a := a) (i := i) (c := c) (w := w)
  have e := capS_sa (part_sa (a := a) (i := i) (c := c) (w := w)) hi
  have c1 : capA a i + 1 ≤ capA (partA a i c w) i := by
    unfold capA
    rw [f1, e3, f5, hs, h24]
    simp
  have := h.1.2.2.2.2.2.2.2
  omega
theorem part_comm {a : RS} {i : Nat} {c w g r ce : Int64} {p so lo bu : Int32} (hi : i < aL a) : aNote (partA (addA a p g r) i c w) so lo bu ce = addA (aNote (partA a i c w) so lo bu ce) p g r := by
  have eL : aL (aNote (partA a i c w) so lo bu ce) = aL a := rfl
  have eR : aR (partA (addA a p g r) i c w) = aR a := rfl
  have eR2 : aR (partA a i c w) = aR a := rfl
  have eN : lastA (partA (addA a p g r) i c w) = lastA a := by
    unfold partA addA
    rw [lastA_wi (by decide) (Or.inl (by decide)), lastA_wj, lastA_wj, lastA_wi (by decide) (Or.inr (by decide)), lastA_wi (by decide) (Or.inl (by decide)), lastA_wj, lastA_wj, lastA_wi (by decide) (Or.inl (by decide))]
  have eN2 : lastA (partA a i c w) = lastA a := by
    unfold partA
    rw [lastA_wi (by decide) (Or.inl (by decide)), lastA_wj, lastA_wj]
  unfold addA
  rw [eL]
  unfold aNote aNoteL
  rw [show aR (partA (wi (wi (wj (wj (wi a 17 (aL a) p) 18 (aL a) g) 19 (aL a) r) 20 (aL a) 0) 8 0 (nI (aL a + 1))) i c w) = aR a from rfl, eR2, show lastA (partA (wi (wi (wj (wj (wi a 17 (aL a) p) 18 (aL a) g) 19 (aL a) r) 20 (aL a) 0) 8 0 (nI (aL a + 1))) i c w) = lastA a from eN, eN2]
  generalize nextF (lastA a) so lo bu ce = L
  generalize aR a = n
  generalize aL a = m at *
  unfold partA
  have ne : i ≠ m := by omega
  refine Prod.ext ?_ ?_
  · funext x y
    simp only [wi, wj]
    grind
  · funext x y
    simp only [wi, wj]
    grind
theorem CR.part {S : St} {a : RS} {ob i : Nat} {c w : Int64} (h : CR S a ob) (hi : i < aL a) (hs : sT a i = 3) : CR (sj (sj (si S 5 i 9 1) 5 i 2 w) 5 i 6 c) (partA a i c w) ob := by
  obtain ⟨e1, e2, e3⟩ := part_q (a := a) (i := i) (c := c) (w := w)
  obtain ⟨f1, f2, f3, f4, f5, f6⟩ := part_s (a := a) (i := i) (c := c) (w := w)
  have row := h.2.1 i hi
  refine CR.lot h (SB.j (SB.j (SB.i SB.rf))) part_sa ?_ ?_ ?_
  · rw [f1, f4, e3, f5, e2, f6]
    refine ⟨?_, ?_, ?_, ?_, ?_, ?_, ?_, ?_, ?_⟩
    · rw [gi_sj, gi_sj, gi_si, if_neg (by omega)]; exact row.2.1
    · rw [gi_sj, gi_sj, gi_si, if_neg (by omega)]; exact row.2.2.1
    · rw [gj_sj, if_neg (by omega), gj_sj]; exact if_pos ⟨rfl, rfl, rfl⟩
    · rw [gj_sj, if_neg (by omega), gj_sj, if_neg (by omega)]; exact row.2.2.2.2.1
    · exact row.2.2.2.2.2.1
    · rw [gi_sj, gi_sj, gi_si, if_neg (by omega)]; exact row.2.2.2.2.2.2.1
    · rw [gi_sj, gi_sj, gi_si]; exact if_pos ⟨rfl, rfl, rfl⟩
    · rw [gi_sj, gi_sj, gi_si, if_neg (by omega)]; exact row.2.2.2.2.2.2.2.2.1
    · rw [gi_sj, gi_sj, gi_si, if_neg (by omega)]; exact row.2.2.2.2.2.2.2.2.2
  · intro _
    rw [f3, e1]
    refine ⟨?_, ?_⟩
    · rw [gi_sj, gi_sj, gi_si, if_neg (by omega)]; exact (h.2.2.1 i hi (Or.inr hs)).1
    · rw [gj_sj]; exact if_pos ⟨rfl, rfl, rfl⟩
  · rw [f1]; exact fun c => absurd c (by omega)
theorem b_part {S : St} (hI : Inv S) (p : Int32) (w : Int64) : Both (wp_X8_part p w) (wp_X9_part p w) S := by
  obtain ⟨ob, h, hk⟩ := id hI
  have hL := hk.1.2.1
  have g6 : gi S 7 0 6 = nI (aL (pr S)) := h.1.1.trans hk.1.1
  have g0 : gi S 8 0 0 = nI (aL (pr S)) := (gi_pr rfl).trans hk.1.1
  rcases ix_or p (aL (pr S)) (by omega) with ⟨i, hi, rfl⟩ | hn
  · have ini : vp_in (nI i) 60 := vp_in_nI (by omega) (by omega)
    obtain ⟨-, r0, r1, r2, r3, r4, r8, r9, -, -⟩ := h.2.1 i hi
    have e3 := st_eq (k := 3) hk.2.1 hi (by omega)
    have g20 : gi S 20 0 i = qi (pr S) 20 i := gi_pr rfl
    have g23 : gi S 23 0 i = qi (pr S) 23 i := gi_pr rfl
    have g24 : gi S 24 0 i = qi (pr S) 24 i := gi_pr rfl
    have g18 : gj S 18 0 i = qj (pr S) 18 i := gj_pr rfl
    have g19 : gj S 19 0 i = qj (pr S) 19 i := gj_pr rfl
    have g22 : gj S 22 0 i = qj (pr S) 22 i := gj_pr rfl
    have g17 : gi S 17 0 i = qi (pr S) 17 i := gi_pr rfl
    have g21 : gi S 21 0 i = qi (pr S) 21 i := gi_pr rfl
    have l60 : nI (aL (pr S)) < (60 : Int32) ↔ aL (pr S) ≠ 60 := by
      rw [show (60 : Int32) = nI 60 from rfl, nI_ltI (by omega) (by omega)]; omega
    have l60e : nI (aL (pr S)) = (60 : Int32) ↔ aL (pr S) = 60 := nI_eq (b := 60) (by omega) (by omega)
    have w1i : w < (1 : Int64) ↔ w ≤ (0 : Int64) := by
      rw [j_lt, j_le, show (1 : Int64).toInt = 1 from rfl, show (0 : Int64).toInt = 0 from rfl]; omega
    have okl := hk.2.1 i hi
    by_cases hA : (¬ qi (pr S) 23 i = 0 ∧ qi (pr S) 24 i = 0) ∧ (¬ w ≤ (0 : Int64) ∧ w < qj (pr S) 18 i) ∧ aL (pr S) ≠ 60
    · obtain ⟨⟨h23, h24⟩, ⟨w0, w1⟩, hl⟩ := hA
      have h23 : qi (pr S) 23 i = 1 := okl.2.2.1.resolve_left h23
      obtain ⟨hs, hp1⟩ := (hk.2.2.1 i hi).2 h23
      have hp0 := (hk.2.2.1 i hi).1 (Or.inr hs)
      have v0 : 1 ≤ w.toInt := by
        have := j_lt.mp (Int64.not_le.mp w0)
        rw [show (0 : Int64).toInt = 0 from rfl] at this; omega
      have v1 : w.toInt < (qj (pr S) 18 i).toInt := j_lt.mp w1
      have esub : (qj (pr S) 18 i - w).toInt = (qj (pr S) 18 i).toInt - w.toInt := j_sub (by omega) (by omega)
      have hc := share_Z (X := qj (pr S) 22 i) (Y := w) (G := qj (pr S) 18 i) hp0 hp1 v0 (by omega) (by omega)
      have hr := share_Z (X := qj (pr S) 19 i) (Y := qj (pr S) 18 i - w) (G := qj (pr S) 18 i) (by omega) (by omega) (by omega) (by omega) (by omega)
      have hg0 : (0 : Int64) < qj (pr S) 18 i := j_lt.mpr (by rw [show (0 : Int64).toInt = 0 from rfl]; omega)
      have hgn : ¬ qj (pr S) 18 i = 0 := fun z => by rw [z] at hg0; exact absurd hg0 (by decide)
      generalize hC : (qj (pr S) 22 i * w + qj (pr S) 18 i - (1 : Int64)) / qj (pr S) 18 i = c at hc
      generalize hD : (qj (pr S) 19 i * (qj (pr S) 18 i - w) + qj (pr S) 18 i - (1 : Int64)) / qj (pr S) 18 i = d at hr
      have ok1 : Ok (partA (pr S) i c w) := hk.part hi hs hc.1 hc.2 h23 v0 (by omega)
      have hcap := cap_part (c := c) (w := w) hk hi hs h24
      have hR := hk.r239 hcap
      have ok2 : Ok (aNote (partA (pr S) i c w) 5 (nI i) (qi (pr S) 21 i) c) := ok1.note hcap
      have cr1 := h.part (c := c) (w := w) hi hs
      have cr2 : CR (cAdd (sj (sj (si S 5 i 9 1) 5 i 2 w) 5 i 6 c) (aR (pr S)) 5 (nI i) (qi (pr S) 21 i) c) (aNote (partA (pr S) i c w) 5 (nI i) (qi (pr S) 21 i) c) ob := CR.add cr1 hk.1.2.2.2.2.2.2.1 hR
      have key := key_addLot (p := qi (pr S) 17 i) (g := qj (pr S) 18 i - w) (r := d) cr2 ok2 (show aL (pr S) < 60 by omega) (by omega) (by omega) hr.1 (by omega)
      rw [show aL (aNote (partA (pr S) i c w) 5 (nI i) (qi (pr S) 21 i) c) = aL (pr S) from rfl, ← part_comm hi] at key
      obtain ⟨x5, x6⟩ := h.2.2.1 i hi (Or.inr hs)
      have n1 : gi S 2 0 1 = nI (aR (pr S)) := h.2.2.2.2.2.2.2.2.2.1.trans hk.1.2.2.2.2.2.2.1
      have n3 : gn S 3 = aR (pr S) := h.1.2.2.2.2.2.1
      have n5 : gn S 5 = aL (pr S) := h.1.2.2.2.1
      have hq : pr (addS (cAdd (sj (sj (si S 5 i 9 1) 5 i 2 w) 5 i 6 c) (aR (pr S)) 5 (nI i) (qi (pr S) 21 i) c) (aL (pr S)) (qi (pr S) 17 i) (qj (pr S) 18 i - w) d) = pr S := by
        unfold addS
        rw [pr_siC rfl, pr_sr, pr_siC rfl, pr_sr, pr_sjC rfl, pr_sjC rfl, pr_siC rfl, pr_siC rfl, pr_sn rfl, pr_add, pr_sjC rfl, pr_sjC rfl, pr_siC rfl]
      refine ⟨nI (aL (pr S)), addS (cAdd (sj (sj (si S 5 i 9 1) 5 i 2 w) 5 i 6 c) (aR (pr S)) 5 (nI i) (qi (pr S) 21 i) c) (aL (pr S)) (qi (pr S) 17 i) (qj (pr S) 18 i - w) d, ?_⟩
      have walk8 : ∀ post : Int32 → St → Prop, post (nI (aL (pr S))) (addS (cAdd (sj (sj (si S 5 i 9 1) 5 i 2 w) 5 i 6 c) (aR (pr S)) 5 (nI i) (qi (pr S) 21 i) c) (aL (pr S)) (qi (pr S) 17 i) (qj (pr S) 18 i - w) d) → wp_X8_part (nI i) w S post := by
        intro post hp
        refine c_lotAtI h hk.1 hi ⟨fun c => (by cases c), fun j e => ?_⟩
        cases e
        rw [r8, r9, r2, g6, h23, h24]
        refine ⟨fun c => absurd c (by decide), fun _ => ⟨fun c => absurd rfl c, fun _ => ⟨fun _ v4 e4 => ?_, fun c => absurd (l60.mpr hl) c⟩⟩⟩
        subst e4
        refine ⟨fun c => absurd c w0, fun _ => ⟨fun _ S5 e5 S6 e6 => ?_, fun c => absurd w1 c⟩⟩
        have f6 : gj S6 5 i 6 = qj (pr S) 22 i := by rw [e6, e5, gj_sj, if_neg (by omega)]; exact x6
        rw [f6]
        refine ⟨fun _ => ⟨hgn, ?_⟩, fun c => absurd hg0 c⟩
        rw [hC]
        intro S9 e9
        have f95 : gi S9 5 i 5 = qi (pr S) 21 i := by rw [e9, e6, e5, gi_sj, gi_sj, gi_si, if_neg (by omega)]; exact x5
        have f96 : gj S9 5 i 6 = c := by rw [e9, gj_sj]; exact if_pos ⟨rfl, rfl, rfl⟩
        rw [f95, f96, e9, e6, e5]
        refine c_add (S := sj (sj (si S 5 i 9 1) 5 i 2 w) 5 i 6 c) n1 hR n3 ?_
        have f3 : gj (cAdd (sj (sj (si S 5 i 9 1) 5 i 2 w) 5 i 6 c) (aR (pr S)) 5 (nI i) (qi (pr S) 21 i) c) 5 i 3 = qj (pr S) 19 i := by rw [← r3]; exact (show gj (sj (sj (si S 5 i 9 1) 5 i 2 w) 5 i 6 c) 5 i 3 = gj S 5 i 3 by rw [gj_sj, if_neg (by omega), gj_sj, if_neg (by omega)]; rfl)
        have f1 : gi (cAdd (sj (sj (si S 5 i 9 1) 5 i 2 w) 5 i 6 c) (aR (pr S)) 5 (nI i) (qi (pr S) 21 i) c) 5 i 1 = qi (pr S) 17 i := by rw [← r1]; exact (show gi (sj (sj (si S 5 i 9 1) 5 i 2 w) 5 i 6 c) 5 i 1 = gi S 5 i 1 by rw [gi_sj, gi_sj, gi_si, if_neg (by omega)])
        show wp_X8_shareOf (gj (cAdd (sj (sj (si S 5 i 9 1) 5 i 2 w) 5 i 6 c) (aR (pr S)) 5 (nI i) (qi (pr S) 21 i) c) 5 i 3) (qj (pr S) 18 i - w) (qj (pr S) 18 i) (cAdd (sj (sj (si S 5 i 9 1) 5 i 2 w) 5 i 6 c) (aR (pr S)) 5 (nI i) (qi (pr S) 21 i) c) (fun r13 S12 => wp_X8_addLot (gi (cAdd (sj (sj (si S 5 i 9 1) 5 i 2 w) 5 i 6 c) (aR (pr S)) 5 (nI i) (qi (pr S) 21 i) c) 5 i 1) (qj (pr S) 18 i - w) r13 S12 (fun r15 S14 => post r15 S14))
        rw [f3, f1]
        refine ⟨fun _ => ⟨hgn, ?_⟩, fun c => absurd hg0 c⟩
        rw [hD]
        exact c_addLot (S := cAdd (sj (sj (si S 5 i 9 1) 5 i 2 w) 5 i 6 c) (aR (pr S)) 5 (nI i) (qi (pr S) 21 i) c) g6 n5 (by omega) hp
      generalize (addS (cAdd (sj (sj (si S 5 i 9 1) 5 i 2 w) 5 i 6 c) (aR (pr S)) 5 (nI i) (qi (pr S) 21 i) c) (aL (pr S)) (qi (pr S) 17 i) (qj (pr S) 18 i - w) d) = Z at *
      have z0 : gi Z 8 0 0 = nI (aL (pr S)) := by rw [show gi Z 8 0 0 = qi (pr Z) 8 0 from gi_pr rfl, hq]; exact hk.1.1
      have z30 : gi Z 8 0 30 = nI (aR (pr S)) := by rw [show gi Z 8 0 30 = qi (pr Z) 8 30 from gi_pr rfl, hq]; exact hk.1.2.2.2.2.2.2.1
      have z20 : gi Z 20 0 i = 3 := by rw [show gi Z 20 0 i = qi (pr Z) 20 i from gi_pr rfl, hq]; exact e3.mpr hs
      have z23 : gi Z 23 0 i = 1 := by rw [show gi Z 23 0 i = qi (pr Z) 23 i from gi_pr rfl, hq]; exact h23
      have z24 : gi Z 24 0 i = 0 := by rw [show gi Z 24 0 i = qi (pr Z) 24 i from gi_pr rfl, hq]; exact h24
      have z21 : gi Z 21 0 i = qi (pr S) 21 i := by rw [show gi Z 21 0 i = qi (pr Z) 21 i from gi_pr rfl, hq]
      have z17 : gi Z 17 0 i = qi (pr S) 17 i := by rw [show gi Z 17 0 i = qi (pr Z) 17 i from gi_pr rfl, hq]
      have z18 : gj Z 18 0 i = qj (pr S) 18 i := by rw [show gj Z 18 0 i = qj (pr Z) 18 i from gj_pr rfl, hq]
      have z19 : gj Z 19 0 i = qj (pr S) 19 i := by rw [show gj Z 19 0 i = qj (pr Z) 19 i from gj_pr rfl, hq]
      have z22 : gj Z 22 0 i = qj (pr S) 22 i := by rw [show gj Z 22 0 i = qj (pr Z) 22 i from gj_pr rfl, hq]
      refine ⟨rNote (si (sj (sj (addR Z (aL (pr S)) (qi (pr S) 17 i) (qj (pr S) 18 i - w) d) 22 0 i c) 18 0 i w) 24 0 i 1) (aR (pr S)) 5 (nI i) (qi (pr S) 21 i) c, walk8, fun post hp => ?_, ob, ?_⟩
      · refine r_isLotI (hq ▸ hk.1) (hq ▸ hi) ⟨fun c => absurd c (by decide), fun _ => ⟨ini, ?_⟩⟩
        rw [nI_clamp (by omega), z20, z23, z24, z18, z19, z17, z0]
        refine ⟨fun c => absurd rfl c, fun _ => ⟨ini, fun c => absurd c (by decide), fun _ => ⟨ini, fun c => absurd rfl c, fun _ => ⟨fun c => absurd (w1i.mp c) w0, fun _ => ⟨ini, fun c => absurd c (Int64.not_le.mpr w1), fun _ => ⟨fun _ => ⟨ini, fun v8 e8 => ⟨ini, ini, ?_⟩⟩, fun c => absurd (l60e.mp c) hl⟩⟩⟩⟩⟩⟩
        subst e8
        refine ⟨hgn, ?_⟩
        rw [hD]
        refine r_add z0 (by omega) ?_
        have y22 : gj (addR Z (aL (pr S)) (qi (pr S) 17 i) (qj (pr S) 18 i - w) d) 22 0 i = qj (pr S) 22 i := by rw [← z22]; rfl
        have y21 : gi (addR Z (aL (pr S)) (qi (pr S) 17 i) (qj (pr S) 18 i - w) d) 21 0 i = qi (pr S) 21 i := by rw [← z21]; rfl
        have y30 : gi (addR Z (aL (pr S)) (qi (pr S) 17 i) (qj (pr S) 18 i - w) d) 8 0 30 = nI (aR (pr S)) := by rw [← z30]; rfl
        show vp_in (nI i) 60 ∧ wp_X9_up (gj (addR Z (aL (pr S)) (qi (pr S) 17 i) (qj (pr S) 18 i - w) d) 22 0 i * w) (qj (pr S) 18 i) (addR Z (aL (pr S)) (qi (pr S) 17 i) (qj (pr S) 18 i - w) d) (fun r18 S17 => vp_in (nI i) 60 ∧ ∀ S19 : St, S19 = sj S17 22 0 i r18 → vp_in (nI i) 60 ∧ ∀ S21 : St, S21 = sj S19 18 0 i w → vp_in (nI i) 60 ∧ ∀ S23 : St, S23 = si S21 24 0 i (1 : Int32) → vp_in (nI i) 60 ∧ vp_in (nI i) 60 ∧ wp_X9_note (5 : Int32) (nI i) (gi S23 21 0 i) (gj S23 22 0 i) S23 (fun S26 => post (nI (aL (pr S))) S26))
        rw [y22]
        refine ⟨ini, hgn, ?_⟩
        rw [hC]
        generalize addR Z (aL (pr S)) (qi (pr S) 17 i) (qj (pr S) 18 i - w) d = Y at *
        refine ⟨ini, fun S19 e19 => ⟨ini, fun S21 e21 => ⟨ini, fun S23 e23 => ⟨ini, ini, ?_⟩⟩⟩⟩
        have x21 : gi S23 21 0 i = qi (pr S) 21 i := by rw [e23, e21, e19]; exact y21
        have x22 : gj S23 22 0 i = c := by rw [e23, e21, e19, gj_si, gj_sj, if_neg (by omega), gj_sj]; exact if_pos ⟨rfl, rfl, rfl⟩
        have x30 : gi S23 8 0 30 = nI (aR (pr S)) := by rw [e23, e21, e19]; exact y30
        rw [x21, x22]
        refine r_note x30 (by omega) ?_
        rw [e23, e21, e19]
        exact hp
      · have eq : pr (si (sj (sj (addR Z (aL (pr S)) (qi (pr S) 17 i) (qj (pr S) 18 i - w) d) 22 0 i c) 18 0 i w) 24 0 i 1) = partA (addA (pr S) (qi (pr S) 17 i) (qj (pr S) 18 i - w) d) i c w := by
          unfold addR
          rw [pr_si rfl, pr_sj rfl, pr_sj rfl, pr_si rfl, pr_si rfl, pr_sj rfl, pr_sj rfl, pr_si rfl, hq]; rfl
        rw [pr_note (by rw [eq]; rfl), eq]
        refine ⟨key.1.cs ?_, key.2⟩
        unfold addR
        exact cs_note (CS.si (CS.sj (CS.sj (CS.si (CS.si (CS.sj (CS.sj (CS.si CS.rf rfl) rfl) rfl) rfl) rfl) rfl) rfl) rfl)
    · have h8 : ∀ post : Int32 → St → Prop, post (-1) S → wp_X8_part (nI i) w S post := by
        intro post hp
        refine c_lotAtI h hk.1 hi ⟨fun c => (by cases c), fun j e => ?_⟩
        cases e
        rw [r8, r9, r2, g6]
        refine ⟨fun _ => hp, fun c1 => ⟨fun _ => hp, fun c2 => ⟨fun c3 v4 e4 => ⟨fun _ => hp, fun c4 => ⟨fun c5 => ?_, fun _ => hp⟩⟩, fun _ => hp⟩⟩⟩
        subst e4
        exact absurd ⟨⟨c1, c2⟩, ⟨c4, c5⟩, l60.mp c3⟩ hA
      have h9 : ∀ post : Int32 → St → Prop, post (-1) S → wp_X9_part (nI i) w S post := by
        intro post hp
        refine r_isLotI hk.1 hi ⟨fun c => absurd c (by decide), fun _ => ⟨ini, ?_⟩⟩
        rw [nI_clamp (by omega), g20, g23, g24, g18, g0]
        exact ⟨fun _ => hp, fun c0 => ⟨ini, fun _ => hp, fun c1 => ⟨ini, fun _ => hp, fun c2 => ⟨fun _ => hp, fun c3 => ⟨ini, fun _ => hp, fun c4 => ⟨fun c5 => absurd ⟨⟨c1, c2⟩, ⟨fun z => c3 (w1i.mpr z), Int64.not_le.mp c4⟩, fun z => c5 (l60e.mpr z)⟩ hA, fun _ => hp⟩⟩⟩⟩⟩⟩
      exact Both.ro hI (-1) h8 h9
  · refine Both.ro hI (-1) (fun post hp => ?_) (fun post hp => ?_)
    · refine c_lotAtN h hk.1 hn ?_
      exact ⟨fun _ => hp, fun j e => (by cases e)⟩
    · refine r_isLotN hk.1 hn ?_
      exact ⟨fun _ => hp, fun c => absurd rfl c⟩
