theorem c_addLot {S : St} {n : Nat} {p : Int32} {g r : Int64} (h1 : gi S 7 0 6 = nI n) (h2 : gn S 5 = n) (hn : n < 60) {post : Int32 → St → Prop}
    (hp : post (nI n) (si (sr (si (sr (sj (sj (si (si (sn S 5) 5 n 0 (nI n)) 5 n 1 p) 5 n 2 g) 5 n 3 r) 5 n 4 (some 0)) 5 n 5 (-1)) 10 0 n (some n)) 7 0 6 (nI (n + 1)))) : wp_X8_addLot p g r S post := by
  unfold wp_X8_addLot wp_X5_init
  rw [h1, h2]
  intro v1 e1
  subst e1
  refine ⟨fun c => absurd c (nI_pos (by omega)), fun _ => ⟨fun _ S4 e4 => ?_, fun c => absurd (nI_lt (b := 60) hn (by omega)) c⟩⟩
  subst e4
  intro S1 e1 S2 e2 S3 e3 S4 e4 S5 e5 S6 e6
  subst e1; subst e2; subst e3; subst e4; subst e5; subst e6
  refine ⟨vp_in_nI (by omega) (by omega), fun S7 e7 => ?_⟩
  subst e7
  intro S8 e8
  subst e8
  rw [nI_clamp (by omega), nI_1]
  exact hp
theorem r_add {S : St} {n : Nat} {p : Int32} {g r : Int64} (h1 : gi S 8 0 0 = nI n) (hn : n < 60) {post : Int32 → St → Prop}
    (hp : post (nI n) (si (si (sj (sj (si S 17 0 n p) 18 0 n g) 19 0 n r) 20 0 n 0) 8 0 0 (nI (n + 1)))) : wp_X9_add p g r S post := by
  have hin : vp_in (nI n) 60 := vp_in_nI (by omega) (by omega)
  have rr : nI (n + 1) - 1 = nI n := by rw [← nI_1]; grind
  unfold wp_X9_add
  rw [h1, nI_clamp (by omega)]
  refine ⟨hin, fun S2 e2 => ?_⟩
  have f2 : gi S2 8 0 0 = nI n := by rw [e2]; exact h1
  rw [f2, nI_clamp (by omega)]
  refine ⟨hin, fun S4 e4 => ?_⟩
  have f4 : gi S4 8 0 0 = nI n := by rw [e4]; exact f2
  rw [f4, nI_clamp (by omega)]
  refine ⟨hin, fun S6 e6 => ?_⟩
  have f6 : gi S6 8 0 0 = nI n := by rw [e6]; exact f4
  rw [f6, nI_clamp (by omega)]
  refine ⟨hin, fun S8 e8 => ?_⟩
  have f8 : gi S8 8 0 0 = nI n := by rw [e8]; exact f6
  rw [f8, nI_1]
  intro S9 e9
  have f9 : gi S9 8 0 0 = nI (n + 1) := by rw [e9, gi_si]; exact if_pos ⟨rfl, rfl, rfl⟩
  rw [f9, rr, e9, e8, e6, e4, e2]
  exact hp
theorem b_lot {S : St} (hI : Inv S) (p : Int32) (g r : Int64) : Both (wp_X8_lot p g r) (wp_X9_lot p g r) S := by
  obtain ⟨ob, h, hk⟩ := id hI
  have hL := hk.1.2.1
  have g0 : gi S 8 0 0 = nI (aL (pr S)) := (gi_pr rfl).trans hk.1.1
  have g7 : gi S 7 0 6 = nI (aL (pr S)) := h.1.1.trans hk.1.1
  have gn5 : gn S 5 = aL (pr S) := h.1.2.2.2.1
  by_cases hw : ((0 ≤ p ∧ p ≤ (9 : Int32)) ∧ ((1 : Int64) ≤ g ∧ g ≤ (1000000000 : Int64)) ∧ ((0 : Int64) ≤ r ∧ r ≤ (1000000000 : Int64))) ∧ aL (pr S) ≠ 60
  · obtain ⟨⟨⟨a1, a2⟩, ⟨a3, a4⟩, a5, a6⟩, a7⟩ := hw
    refine ⟨nI (aL (pr S)), (si (sr (si (sr (sj (sj (si (si (sn S 5) 5 (aL (pr S)) 0 (nI (aL (pr S)))) 5 (aL (pr S)) 1 p) 5 (aL (pr S)) 2 g) 5 (aL (pr S)) 3 r) 5 (aL (pr S)) 4 (some 0)) 5 (aL (pr S)) 5 (-1)) 10 0 (aL (pr S)) (some (aL (pr S)))) 7 0 6 (nI (aL (pr S) + 1))), (si (si (sj (sj (si (si (sr (si (sr (sj (sj (si (si (sn S 5) 5 (aL (pr S)) 0 (nI (aL (pr S)))) 5 (aL (pr S)) 1 p) 5 (aL (pr S)) 2 g) 5 (aL (pr S)) 3 r) 5 (aL (pr S)) 4 (some 0)) 5 (aL (pr S)) 5 (-1)) 10 0 (aL (pr S)) (some (aL (pr S)))) 7 0 6 (nI (aL (pr S) + 1))) 17 0 (aL (pr S)) p) 18 0 (aL (pr S)) g) 19 0 (aL (pr S)) r) 20 0 (aL (pr S)) 0) 8 0 0 (nI (aL (pr S) + 1))), fun post hp => ?_, fun post hp => ?_, ?_⟩
    · refine c_isWithin (fun _ _ => ⟨fun c => absurd c (by decide), fun _ => c_isWithin (fun _ _ => ⟨fun _ => c_isWithin (fun _ _ => ⟨fun _ => c_addLot g7 gn5 (by omega) hp, fun c => absurd c (by decide)⟩) (fun c => ?_), fun c => absurd c (by decide)⟩) (fun c => ?_)⟩) (fun c => ?_)
      · exact absurd c (fun q => q.elim (Int64.not_lt.mpr a5) (Int64.not_lt.mpr a6))
      · exact absurd c (fun q => q.elim (Int64.not_lt.mpr a3) (Int64.not_lt.mpr a4))
      · exact absurd c (fun q => q.elim (fun z => Int32.not_lt.mpr a1 (i64_lo.mp z)) (fun z => Int32.not_lt.mpr a2 (i64_hi.mp z)))
    · have hz : gi (si (sr (si (sr (sj (sj (si (si (sn S 5) 5 (aL (pr S)) 0 (nI (aL (pr S)))) 5 (aL (pr S)) 1 p) 5 (aL (pr S)) 2 g) 5 (aL (pr S)) 3 r) 5 (aL (pr S)) 4 (some 0)) 5 (aL (pr S)) 5 (-1)) 10 0 (aL (pr S)) (some (aL (pr S)))) 7 0 6 (nI (aL (pr S) + 1))) 8 0 0 = nI (aL (pr S)) := g0
      generalize (si (sr (si (sr (sj (sj (si (si (sn S 5) 5 (aL (pr S)) 0 (nI (aL (pr S)))) 5 (aL (pr S)) 1 p) 5 (aL (pr S)) 2 g) 5 (aL (pr S)) 3 r) 5 (aL (pr S)) 4 (some 0)) 5 (aL (pr S)) 5 (-1)) 10 0 (aL (pr S)) (some (aL (pr S)))) 7 0 6 (nI (aL (pr S) + 1))) = T at *
      unfold wp_X9_lot
      rw [hz]
      exact ⟨fun c => absurd ((nI_eq (b := 60) (by omega) (by omega)).mp c) a7, fun _ => ⟨fun c => absurd c (Int32.not_lt.mpr a1), fun _ => ⟨fun c => absurd c (Int32.not_lt.mpr a2), fun _ => ⟨fun c => absurd c (Int64.not_lt.mpr a3), fun _ => ⟨fun c => absurd c (Int64.not_lt.mpr a4), fun _ => ⟨fun c => absurd c (Int64.not_lt.mpr a5), fun _ => ⟨fun _ => r_add hz (by omega) hp, fun c => absurd a6 c⟩⟩⟩⟩⟩⟩⟩
    · have i0 : 1 ≤ g.toInt := Int64.le_iff_toInt_le.mp a3
      have i1 : g.toInt ≤ 1000000000 := Int64.le_iff_toInt_le.mp a4
      have i2 : 0 ≤ r.toInt := Int64.le_iff_toInt_le.mp a5
      have i3 : r.toInt ≤ 1000000000 := Int64.le_iff_toInt_le.mp a6
      have ec : (nI (aL (pr S) + 1)).toNatClampNeg = aL (pr S) + 1 := nI_clamp (by omega)
      clear g7 g0 hI a1 a2 a3 a4 a5 a6
      refine ⟨ob, ?_⟩
      rw [pr_si rfl, pr_si rfl, pr_sj rfl, pr_sj rfl, pr_si rfl, pr_siC rfl, pr_sr, pr_siC rfl, pr_sr, pr_sjC rfl, pr_sjC rfl, pr_siC rfl, pr_siC rfl, pr_sn rfl]
      obtain ⟨hCRc, hCRl, hCRt, hCRo, hCRb, hCRp, hCRk, hCRd, hCRs, hCRr⟩ := h
      obtain ⟨hOkC, hOkL, hOkT, hOkN, hOkB, hOkP, hOkD, hOkZ, hOkR⟩ := hk
      generalize pr S = a at *
      refine ⟨⟨?_, ?_, ?_, ?_, ?_, ?_, ?_, ?_, ?_, ?_⟩, ?_, ?_, ?_, ?_, ?_, ?_, ?_, ?_, ?_⟩
      · (try simp (disch := simp [nf, nk]) only [CRc_wi, CRc_wj, CRc_si, CRc_sj, CRc_sr, CRc_sn])
        unfold CRc at *
        simp [qi_wi, qi_wj, qj_wi, qj_wj, gi_si, gi_sj, gi_sr, gj_si, gj_sj, gj_sr, gr_si, gr_sj, gr_sr, gn_si, gn_sj, gn_sr, gi_sn, gj_sn, gr_sn, gn_sn, aL_wi, aL_wj, aB_wi, aB_wj, aD_wi, aD_wj, aR_wi, aR_wj, sT_wi, sT_wj, lastA_wj, lastA_wi, prevA_wj, prevA_wi, ec]
        grind
      · (try simp (disch := simp [nf, nk]) only [CRl_wi, CRl_wj, CRl_si, CRl_sj, CRl_sr, CRl_sn])
        obtain ⟨z1, z2, z3, z4⟩ := hOkZ.1 (aL a) (Nat.le_refl _)
        intro i hi
        have hi : i < aL a + 1 := (by simpa [qi_wi, qi_wj, qj_wi, qj_wj, gi_si, gi_sj, gi_sr, gj_si, gj_sj, gj_sr, gr_si, gr_sj, gr_sr, gn_si, gn_sj, gn_sr, gi_sn, gj_sn, gr_sn, gn_sn, aL_wi, aL_wj, aB_wi, aB_wj, aD_wi, aD_wj, aR_wi, aR_wj, sT_wi, sT_wj, lastA_wj, lastA_wi, prevA_wj, prevA_wi, ec] using hi)
        rcases (show i < aL a ∨ i = aL a by omega) with q | rfl
        · have ne : i ≠ aL a := (by omega)
          simp [qi_wi, qi_wj, qj_wi, qj_wj, gi_si, gi_sj, gi_sr, gj_si, gj_sj, gj_sr, gr_si, gr_sj, gr_sr, gn_si, gn_sj, gn_sr, gi_sn, gj_sn, gr_sn, gn_sn, aL_wi, aL_wj, aB_wi, aB_wj, aD_wi, aD_wj, aR_wi, aR_wj, sT_wi, sT_wj, lastA_wj, lastA_wi, prevA_wj, prevA_wi, ne, gn5]; exact hCRl i q
        · simp [qi_wi, qi_wj, qj_wi, qj_wj, gi_si, gi_sj, gi_sr, gj_si, gj_sj, gj_sr, gr_si, gr_sj, gr_sr, gn_si, gn_sj, gn_sr, gi_sn, gj_sn, gr_sn, gn_sn, aL_wi, aL_wj, aB_wi, aB_wj, aD_wi, aD_wj, aR_wi, aR_wj, sT_wi, sT_wj, lastA_wj, lastA_wi, prevA_wj, prevA_wi, gn5, z1, z2, z3, z4, show (0 : Int32).toNatClampNeg = 0 from rfl]
      · (try simp (disch := simp [nf, nk]) only [CRt_wi, CRt_wj, CRt_si, CRt_sj, CRt_sr, CRt_sn])
        intro i hi
        have hi : i < aL a + 1 := (by simpa [qi_wi, qi_wj, qj_wi, qj_wj, gi_si, gi_sj, gi_sr, gj_si, gj_sj, gj_sr, gr_si, gr_sj, gr_sr, gn_si, gn_sj, gn_sr, gi_sn, gj_sn, gr_sn, gn_sn, aL_wi, aL_wj, aB_wi, aB_wj, aD_wi, aD_wj, aR_wi, aR_wj, sT_wi, sT_wj, lastA_wj, lastA_wi, prevA_wj, prevA_wi, ec] using hi)
        rcases (show i < aL a ∨ i = aL a by omega) with q | rfl
        · have ne : i ≠ aL a := (by omega)
          simp [qi_wi, qi_wj, qj_wi, qj_wj, gi_si, gi_sj, gi_sr, gj_si, gj_sj, gj_sr, gr_si, gr_sj, gr_sr, gn_si, gn_sj, gn_sr, gi_sn, gj_sn, gr_sn, gn_sn, aL_wi, aL_wj, aB_wi, aB_wj, aD_wi, aD_wj, aR_wi, aR_wj, sT_wi, sT_wj, lastA_wj, lastA_wi, prevA_wj, prevA_wi, ne, gn5]; exact hCRt i q
        · simp [qi_wi, qi_wj, qj_wi, qj_wj, gi_si, gi_sj, gi_sr, gj_si, gj_sj, gj_sr, gr_si, gr_sj, gr_sr, gn_si, gn_sj, gn_sr, gi_sn, gj_sn, gr_sn, gn_sn, aL_wi, aL_wj, aB_wi, aB_wj, aD_wi, aD_wj, aR_wi, aR_wj, sT_wi, sT_wj, lastA_wj, lastA_wi, prevA_wj, prevA_wi, show (0 : Int32).toNatClampNeg = 0 from rfl]
      · (try simp (disch := simp [nf, nk]) only [CRo_wi, CRo_wj, CRo_si, CRo_sj, CRo_sr, CRo_sn])
        intro i hi
        have hi : i < aL a + 1 := (by simpa [qi_wi, qi_wj, qj_wi, qj_wj, gi_si, gi_sj, gi_sr, gj_si, gj_sj, gj_sr, gr_si, gr_sj, gr_sr, gn_si, gn_sj, gn_sr, gi_sn, gj_sn, gr_sn, gn_sn, aL_wi, aL_wj, aB_wi, aB_wj, aD_wi, aD_wj, aR_wi, aR_wj, sT_wi, sT_wj, lastA_wj, lastA_wi, prevA_wj, prevA_wi, ec] using hi)
        rcases (show i < aL a ∨ i = aL a by omega) with q | rfl
        · have ne : i ≠ aL a := (by omega)
          simp [qi_wi, qi_wj, qj_wi, qj_wj, gi_si, gi_sj, gi_sr, gj_si, gj_sj, gj_sr, gr_si, gr_sj, gr_sr, gn_si, gn_sj, gn_sr, gi_sn, gj_sn, gr_sn, gn_sn, aL_wi, aL_wj, aB_wi, aB_wj, aD_wi, aD_wj, aR_wi, aR_wj, sT_wi, sT_wj, lastA_wj, lastA_wi, prevA_wj, prevA_wi, ne, gn5]; exact hCRo i q
        · simp [qi_wi, qi_wj, qj_wi, qj_wj, gi_si, gi_sj, gi_sr, gj_si, gj_sj, gj_sr, gr_si, gr_sj, gr_sr, gn_si, gn_sj, gn_sr, gi_sn, gj_sn, gr_sn, gn_sn, aL_wi, aL_wj, aB_wi, aB_wj, aD_wi, aD_wj, aR_wi, aR_wj, sT_wi, sT_wj, lastA_wj, lastA_wi, prevA_wj, prevA_wi, show (0 : Int32).toNatClampNeg = 0 from rfl]
      · (simp (disch := simp [nf, nk]) only [CRb_wi, CRb_wj, CRb_si, CRb_sj, CRb_sr, CRb_sn]; exact hCRb)
      · (simp (disch := simp [nf, nk]) only [CRp_wi, CRp_wj, CRp_si, CRp_sj, CRp_sr, CRp_sn]; exact hCRp)
      · (simp (disch := simp [nf, nk]) only [CRk_wi, CRk_wj, CRk_si, CRk_sj, CRk_sr, CRk_sn]; exact hCRk)
      · (simp (disch := simp [nf, nk]) only [CRd_wi, CRd_wj, CRd_si, CRd_sj, CRd_sr, CRd_sn]; exact hCRd)
      · (simp (disch := simp [nf, nk]) only [CRs_wi, CRs_wj, CRs_si, CRs_sj, CRs_sr, CRs_sn]; exact hCRs)
      · (simp (disch := simp [nf, nk]) only [CRr_wi, CRr_wj, CRr_si, CRr_sj, CRr_sr, CRr_sn]; exact hCRr)
      · (try simp (disch := simp [nf, nk]) only [OkC_wi, OkC_wj])
        obtain ⟨c1, c2, c3, c4, c5, c6, c7, c8⟩ := hOkC
        refine ⟨by simp [qi_wi, qi_wj, qj_wi, qj_wj, gi_si, gi_sj, gi_sr, gj_si, gj_sj, gj_sr, gr_si, gr_sj, gr_sr, gn_si, gn_sj, gn_sr, gi_sn, gj_sn, gr_sn, gn_sn, aL_wi, aL_wj, aB_wi, aB_wj, aD_wi, aD_wj, aR_wi, aR_wj, sT_wi, sT_wj, lastA_wj, lastA_wi, prevA_wj, prevA_wi, ec], by simp [qi_wi, qi_wj, qj_wi, qj_wj, gi_si, gi_sj, gi_sr, gj_si, gj_sj, gj_sr, gr_si, gr_sj, gr_sr, gn_si, gn_sj, gn_sr, gi_sn, gj_sn, gr_sn, gn_sn, aL_wi, aL_wj, aB_wi, aB_wj, aD_wi, aD_wj, aR_wi, aR_wj, sT_wi, sT_wj, lastA_wj, lastA_wi, prevA_wj, prevA_wi, ec]; omega, by simpa [qi_wi, qi_wj, qj_wi, qj_wj, gi_si, gi_sj, gi_sr, gj_si, gj_sj, gj_sr, gr_si, gr_sj, gr_sr, gn_si, gn_sj, gn_sr, gi_sn, gj_sn, gr_sn, gn_sn, aL_wi, aL_wj, aB_wi, aB_wj, aD_wi, aD_wj, aR_wi, aR_wj, sT_wi, sT_wj, lastA_wj, lastA_wi, prevA_wj, prevA_wi, capS_wj, capS_wi] using c3, by simpa [qi_wi, qi_wj, qj_wi, qj_wj, gi_si, gi_sj, gi_sr, gj_si, gj_sj, gj_sr, gr_si, gr_sj, gr_sr, gn_si, gn_sj, gn_sr, gi_sn, gj_sn, gr_sn, gn_sn, aL_wi, aL_wj, aB_wi, aB_wj, aD_wi, aD_wj, aR_wi, aR_wj, sT_wi, sT_wj, lastA_wj, lastA_wi, prevA_wj, prevA_wi, capS_wj, capS_wi] using c4, by simpa [qi_wi, qi_wj, qj_wi, qj_wj, gi_si, gi_sj, gi_sr, gj_si, gj_sj, gj_sr, gr_si, gr_sj, gr_sr, gn_si, gn_sj, gn_sr, gi_sn, gj_sn, gr_sn, gn_sn, aL_wi, aL_wj, aB_wi, aB_wj, aD_wi, aD_wj, aR_wi, aR_wj, sT_wi, sT_wj, lastA_wj, lastA_wi, prevA_wj, prevA_wi, capS_wj, capS_wi] using c5, by simpa [qi_wi, qi_wj, qj_wi, qj_wj, gi_si, gi_sj, gi_sr, gj_si, gj_sj, gj_sr, gr_si, gr_sj, gr_sr, gn_si, gn_sj, gn_sr, gi_sn, gj_sn, gr_sn, gn_sn, aL_wi, aL_wj, aB_wi, aB_wj, aD_wi, aD_wj, aR_wi, aR_wj, sT_wi, sT_wj, lastA_wj, lastA_wi, prevA_wj, prevA_wi, capS_wj, capS_wi] using c6, by simpa [qi_wi, qi_wj, qj_wi, qj_wj, gi_si, gi_sj, gi_sr, gj_si, gj_sj, gj_sr, gr_si, gr_sj, gr_sr, gn_si, gn_sj, gn_sr, gi_sn, gj_sn, gr_sn, gn_sn, aL_wi, aL_wj, aB_wi, aB_wj, aD_wi, aD_wj, aR_wi, aR_wj, sT_wi, sT_wj, lastA_wj, lastA_wi, prevA_wj, prevA_wi, capS_wj, capS_wi] using c7, ?_⟩
        have e : capS (wi (wi (wj (wj (wi a 17 (aL a) p) 18 (aL a) g) 19 (aL a) r) 20 (aL a) 0) 8 0 (nI (aL a + 1))) (aL a) = capS a (aL a) := capS_c (fun i hi => capA_c (by simp [qi_wi, qi_wj, qj_wi, qj_wj, gi_si, gi_sj, gi_sr, gj_si, gj_sj, gj_sr, gr_si, gr_sj, gr_sr, gn_si, gn_sj, gn_sr, gi_sn, gj_sn, gr_sn, gn_sn, aL_wi, aL_wj, aB_wi, aB_wj, aD_wi, aD_wj, aR_wi, aR_wj, sT_wi, sT_wj, lastA_wj, lastA_wi, prevA_wj, prevA_wi, capS_wj, capS_wi]; omega) (by simp [qi_wi, qi_wj, qj_wi, qj_wj, gi_si, gi_sj, gi_sr, gj_si, gj_sj, gj_sr, gr_si, gr_sj, gr_sr, gn_si, gn_sj, gn_sr, gi_sn, gj_sn, gr_sn, gn_sn, aL_wi, aL_wj, aB_wi, aB_wj, aD_wi, aD_wj, aR_wi, aR_wj, sT_wi, sT_wj, lastA_wj, lastA_wi, prevA_wj, prevA_wi, capS_wj, capS_wi]) (by simp [qi_wi, qi_wj, qj_wi, qj_wj, gi_si, gi_sj, gi_sr, gj_si, gj_sj, gj_sr, gr_si, gr_sj, gr_sr, gn_si, gn_sj, gn_sr, gi_sn, gj_sn, gr_sn, gn_sn, aL_wi, aL_wj, aB_wi, aB_wj, aD_wi, aD_wj, aR_wi, aR_wj, sT_wi, sT_wj, lastA_wj, lastA_wi, prevA_wj, prevA_wi, capS_wj, capS_wi]))
        simp only [aL_wi, aR_wi, aR_wj]
        simp [ec]
        simp only [capS]
        omega
      · (try simp (disch := simp [nf, nk]) only [OkL_wi, OkL_wj])
        obtain ⟨z1, z2, z3, z4⟩ := hOkZ.1 (aL a) (Nat.le_refl _)
        intro i hi
        have hi : i < aL a + 1 := (by simpa [qi_wi, qi_wj, qj_wi, qj_wj, gi_si, gi_sj, gi_sr, gj_si, gj_sj, gj_sr, gr_si, gr_sj, gr_sr, gn_si, gn_sj, gn_sr, gi_sn, gj_sn, gr_sn, gn_sn, aL_wi, aL_wj, aB_wi, aB_wj, aD_wi, aD_wj, aR_wi, aR_wj, sT_wi, sT_wj, lastA_wj, lastA_wi, prevA_wj, prevA_wi, ec] using hi)
        rcases (show i < aL a ∨ i = aL a by omega) with q | rfl
        · have ne : i ≠ aL a := (by omega)
          simp [qi_wi, qi_wj, qj_wi, qj_wj, gi_si, gi_sj, gi_sr, gj_si, gj_sj, gj_sr, gr_si, gr_sj, gr_sr, gn_si, gn_sj, gn_sr, gi_sn, gj_sn, gr_sn, gn_sn, aL_wi, aL_wj, aB_wi, aB_wj, aD_wi, aD_wj, aR_wi, aR_wj, sT_wi, sT_wj, lastA_wj, lastA_wi, prevA_wj, prevA_wi, ne]; exact hOkL i q
        · simp [qi_wi, qi_wj, qj_wi, qj_wj, gi_si, gi_sj, gi_sr, gj_si, gj_sj, gj_sr, gr_si, gr_sj, gr_sr, gn_si, gn_sj, gn_sr, gi_sn, gj_sn, gr_sn, gn_sn, aL_wi, aL_wj, aB_wi, aB_wj, aD_wi, aD_wj, aR_wi, aR_wj, sT_wi, sT_wj, lastA_wj, lastA_wi, prevA_wj, prevA_wi, show (0 : Int32).toNatClampNeg = 0 from rfl, z1, z2, z3]; first | omega | exact ⟨rfl, i0, i1, i2, i3⟩ | grind
      · (try simp (disch := simp [nf, nk]) only [OkT_wi, OkT_wj])
        obtain ⟨z1, z2, z3, z4⟩ := hOkZ.1 (aL a) (Nat.le_refl _)
        intro i hi
        have hi : i < aL a + 1 := (by simpa [qi_wi, qi_wj, qj_wi, qj_wj, gi_si, gi_sj, gi_sr, gj_si, gj_sj, gj_sr, gr_si, gr_sj, gr_sr, gn_si, gn_sj, gn_sr, gi_sn, gj_sn, gr_sn, gn_sn, aL_wi, aL_wj, aB_wi, aB_wj, aD_wi, aD_wj, aR_wi, aR_wj, sT_wi, sT_wj, lastA_wj, lastA_wi, prevA_wj, prevA_wi, ec] using hi)
        rcases (show i < aL a ∨ i = aL a by omega) with q | rfl
        · have ne : i ≠ aL a := (by omega)
          simp [qi_wi, qi_wj, qj_wi, qj_wj, gi_si, gi_sj, gi_sr, gj_si, gj_sj, gj_sr, gr_si, gr_sj, gr_sr, gn_si, gn_sj, gn_sr, gi_sn, gj_sn, gr_sn, gn_sn, aL_wi, aL_wj, aB_wi, aB_wj, aD_wi, aD_wj, aR_wi, aR_wj, sT_wi, sT_wj, lastA_wj, lastA_wi, prevA_wj, prevA_wi, ne]; exact hOkT i q
        · simp [qi_wi, qi_wj, qj_wi, qj_wj, gi_si, gi_sj, gi_sr, gj_si, gj_sj, gj_sr, gr_si, gr_sj, gr_sr, gn_si, gn_sj, gn_sr, gi_sn, gj_sn, gr_sn, gn_sn, aL_wi, aL_wj, aB_wi, aB_wj, aD_wi, aD_wj, aR_wi, aR_wj, sT_wi, sT_wj, lastA_wj, lastA_wi, prevA_wj, prevA_wi, show (0 : Int32).toNatClampNeg = 0 from rfl, z1]
      · (try simp (disch := simp [nf, nk]) only [OkN_wi, OkN_wj])
        unfold OkN at *
        simp [qi_wi, qi_wj, qj_wi, qj_wj, gi_si, gi_sj, gi_sr, gj_si, gj_sj, gj_sr, gr_si, gr_sj, gr_sr, gn_si, gn_sj, gn_sr, gi_sn, gj_sn, gr_sn, gn_sn, aL_wi, aL_wj, aB_wi, aB_wj, aD_wi, aD_wj, aR_wi, aR_wj, sT_wi, sT_wj, lastA_wj, lastA_wi, prevA_wj, prevA_wi, ec]
        refine ⟨hOkN.1, hOkN.2.1, hOkN.2.2.imp id ?_⟩
        rintro ⟨i, q, q1, q2, q3⟩
        exact ⟨i, by omega, q1, by rw [if_neg (by omega)]; exact q2, q3⟩
      · (try simp (disch := simp [nf, nk]) only [OkB_wi, OkB_wj])
        intro b hb
        have e : ∀ x, heldZ x b (aL a + 1) = heldZ x b (aL a) + hvZ x b (aL a) := fun x => rfl
        have e2 : heldZ (wi (wi (wj (wj (wi a 17 (aL a) p) 18 (aL a) g) 19 (aL a) r) 20 (aL a) 0) 8 0 (nI (aL a + 1))) b (aL a) = heldZ a b (aL a) := heldZ_c (fun i hi => hvZ_c (by simp [qi_wi, qi_wj, qj_wi, qj_wj, gi_si, gi_sj, gi_sr, gj_si, gj_sj, gj_sr, gr_si, gr_sj, gr_sr, gn_si, gn_sj, gn_sr, gi_sn, gj_sn, gr_sn, gn_sn, aL_wi, aL_wj, aB_wi, aB_wj, aD_wi, aD_wj, aR_wi, aR_wj, sT_wi, sT_wj, lastA_wj, lastA_wi, prevA_wj, prevA_wi, heldZ_wj, heldZ_wi]; omega) (by simp [qi_wi, qi_wj, qj_wi, qj_wj, gi_si, gi_sj, gi_sr, gj_si, gj_sj, gj_sr, gr_si, gr_sj, gr_sr, gn_si, gn_sj, gn_sr, gi_sn, gj_sn, gr_sn, gn_sn, aL_wi, aL_wj, aB_wi, aB_wj, aD_wi, aD_wj, aR_wi, aR_wj, sT_wi, sT_wj, lastA_wj, lastA_wi, prevA_wj, prevA_wi, heldZ_wj, heldZ_wi]) (by simp [qi_wi, qi_wj, qj_wi, qj_wj, gi_si, gi_sj, gi_sr, gj_si, gj_sj, gj_sr, gr_si, gr_sj, gr_sr, gn_si, gn_sj, gn_sr, gi_sn, gj_sn, gr_sn, gn_sn, aL_wi, aL_wj, aB_wi, aB_wj, aD_wi, aD_wj, aR_wi, aR_wj, sT_wi, sT_wj, lastA_wj, lastA_wi, prevA_wj, prevA_wi, heldZ_wj, heldZ_wi]))
        have e3 : hvZ (wi (wi (wj (wj (wi a 17 (aL a) p) 18 (aL a) g) 19 (aL a) r) 20 (aL a) 0) 8 0 (nI (aL a + 1))) b (aL a) = 0 := (by unfold hvZ; simp [qi_wi, qi_wj, qj_wi, qj_wj, gi_si, gi_sj, gi_sr, gj_si, gj_sj, gj_sr, gr_si, gr_sj, gr_sr, gn_si, gn_sj, gn_sr, gi_sn, gj_sn, gr_sn, gn_sn, aL_wi, aL_wj, aB_wi, aB_wj, aD_wi, aD_wj, aR_wi, aR_wj, sT_wi, sT_wj, lastA_wj, lastA_wi, prevA_wj, prevA_wi, show (0 : Int32).toNatClampNeg = 0 from rfl])
        have := hOkB b (by simpa [qi_wi, qi_wj, qj_wi, qj_wj, gi_si, gi_sj, gi_sr, gj_si, gj_sj, gj_sr, gr_si, gr_sj, gr_sr, gn_si, gn_sj, gn_sr, gi_sn, gj_sn, gr_sn, gn_sn, aL_wi, aL_wj, aB_wi, aB_wj, aD_wi, aD_wj, aR_wi, aR_wj, sT_wi, sT_wj, lastA_wj, lastA_wi, prevA_wj, prevA_wi, heldZ_wj, heldZ_wi] using hb)
        simp only [aL_wi]
        simp [qi_wi, qi_wj, qj_wi, qj_wj, gi_si, gi_sj, gi_sr, gj_si, gj_sj, gj_sr, gr_si, gr_sj, gr_sr, gn_si, gn_sj, gn_sr, gi_sn, gj_sn, gr_sn, gn_sn, aL_wi, aL_wj, aB_wi, aB_wj, aD_wi, aD_wj, aR_wi, aR_wj, sT_wi, sT_wj, lastA_wj, lastA_wi, prevA_wj, prevA_wi, ec, e, e2, e3]
        exact this
      · (simp (disch := simp [nf, nk]) only [OkP_wi, OkP_wj]; exact hOkP)
      · (simp (disch := simp [nf, nk]) only [OkD_wi, OkD_wj]; exact hOkD)
      · (try simp (disch := simp [nf, nk]) only [OkZ_wi, OkZ_wj])
        refine ⟨fun i hi => ?_, by simpa [qi_wi, qi_wj, qj_wi, qj_wj, gi_si, gi_sj, gi_sr, gj_si, gj_sj, gj_sr, gr_si, gr_sj, gr_sr, gn_si, gn_sj, gn_sr, gi_sn, gj_sn, gr_sn, gn_sn, aL_wi, aL_wj, aB_wi, aB_wj, aD_wi, aD_wj, aR_wi, aR_wj, sT_wi, sT_wj, lastA_wj, lastA_wi, prevA_wj, prevA_wi] using hOkZ.2.1, fun i hi => ?_⟩
        · have := hOkZ.1 i (by have : aL a + 1 ≤ i := (by simpa [qi_wi, qi_wj, qj_wi, qj_wj, gi_si, gi_sj, gi_sr, gj_si, gj_sj, gj_sr, gr_si, gr_sj, gr_sr, gn_si, gn_sj, gn_sr, gi_sn, gj_sn, gr_sn, gn_sn, aL_wi, aL_wj, aB_wi, aB_wj, aD_wi, aD_wj, aR_wi, aR_wj, sT_wi, sT_wj, lastA_wj, lastA_wi, prevA_wj, prevA_wi, ec] using hi); omega)
          simpa [qi_wi, qi_wj, qj_wi, qj_wj, gi_si, gi_sj, gi_sr, gj_si, gj_sj, gj_sr, gr_si, gr_sj, gr_sr, gn_si, gn_sj, gn_sr, gi_sn, gj_sn, gr_sn, gn_sn, aL_wi, aL_wj, aB_wi, aB_wj, aD_wi, aD_wj, aR_wi, aR_wj, sT_wi, sT_wj, lastA_wj, lastA_wi, prevA_wj, prevA_wi] using this
        · have hi : i < aL a + 1 := (by simpa [qi_wi, qi_wj, qj_wi, qj_wj, gi_si, gi_sj, gi_sr, gj_si, gj_sj, gj_sr, gr_si, gr_sj, gr_sr, gn_si, gn_sj, gn_sr, gi_sn, gj_sn, gr_sn, gn_sn, aL_wi, aL_wj, aB_wi, aB_wj, aD_wi, aD_wj, aR_wi, aR_wj, sT_wi, sT_wj, lastA_wj, lastA_wi, prevA_wj, prevA_wi, ec] using hi)
          rcases (show i < aL a ∨ i = aL a by omega) with q | rfl
          · have ne : i ≠ aL a := (by omega)
            simp [qi_wi, qi_wj, qj_wi, qj_wj, gi_si, gi_sj, gi_sr, gj_si, gj_sj, gj_sr, gr_si, gr_sj, gr_sr, gn_si, gn_sj, gn_sr, gi_sn, gj_sn, gr_sn, gn_sn, aL_wi, aL_wj, aB_wi, aB_wj, aD_wi, aD_wj, aR_wi, aR_wj, sT_wi, sT_wj, lastA_wj, lastA_wi, prevA_wj, prevA_wi, ne]; exact hOkZ.2.2 i q
          · simp [qi_wi, qi_wj, qj_wi, qj_wj, gi_si, gi_sj, gi_sr, gj_si, gj_sj, gj_sr, gr_si, gr_sj, gr_sr, gn_si, gn_sj, gn_sr, gi_sn, gj_sn, gr_sn, gn_sn, aL_wi, aL_wj, aB_wi, aB_wj, aD_wi, aD_wj, aR_wi, aR_wj, sT_wi, sT_wj, lastA_wj, lastA_wi, prevA_wj, prevA_wi, show (0 : Int32).toNatClampNeg = 0 from rfl]
      · (simp (disch := simp [nf, nk]) only [OkR_wi, OkR_wj]; exact hOkR)
  · refine Both.ro hI (-1) (fun post hp => ?_) (fun post hp => ?_)
    · refine c_isWithin (fun a1 a2 => ⟨fun c => absurd c (by decide), fun _ => c_isWithin (fun a3 a4 => ⟨fun _ => c_isWithin (fun a5 a6 => ⟨fun _ => ?_, fun c => absurd c (by decide)⟩) (fun _ => ⟨fun c => absurd rfl c, fun _ => hp⟩), fun c => absurd c (by decide)⟩) (fun _ => ⟨fun c => absurd rfl c, fun _ => hp⟩)⟩) (fun _ => ⟨fun _ => hp, fun c => absurd rfl c⟩)
      have e60 : aL (pr S) = 60 := Classical.byContradiction (fun q => hw ⟨⟨⟨Int32.not_lt.mp (fun z => Int64.not_lt.mpr a1 (i64_lo.mpr z)), Int32.not_lt.mp (fun z => Int64.not_lt.mpr a2 (i64_hi.mpr z))⟩, ⟨a3, a4⟩, a5, a6⟩, q⟩)
      intro v1 e1
      rw [g7, e60] at e1
      subst e1
      exact ⟨fun c => absurd c (by decide), fun _ => ⟨fun c => absurd c (by decide), fun _ => hp⟩⟩
    · refine ⟨fun _ => hp, fun n60 => ⟨fun _ => hp, fun b1 => ⟨fun _ => hp, fun b2 => ⟨fun _ => hp, fun b3 => ⟨fun _ => hp, fun b4 => ⟨fun _ => hp, fun b5 => ⟨fun b6 => ?_, fun _ => hp⟩⟩⟩⟩⟩⟩⟩
      exact absurd ⟨⟨⟨Int32.not_lt.mp b1, Int32.not_lt.mp b2⟩, ⟨Int64.not_lt.mp b3, Int64.not_lt.mp b4⟩, Int64.not_lt.mp b5, b6⟩, fun q => n60 (by rw [g0, q]; rfl)⟩ hw
