theorem heldZ_0 {a : RS} {b n : Nat} (h : ∀ i, i < n → hvZ a b i = 0) : heldZ a b n = 0 := by
  induction n with
  | zero => rfl
  | succ n ih => rw [heldZ_s, ih (fun i hi => h i (by omega)), h n (by omega)]; rfl
theorem r_buyer {S : St} {n : Nat} {w : Int64} (h1 : gi S 8 0 12 = nI n) (hn : n < 30) (w0 : (0 : Int64) ≤ w) (w1 : w ≤ (1000000000000 : Int64)) {post : Int32 → St → Prop}
    (hp : post (nI n) (si (sj (sj S 28 0 n w) 30 0 n (-1)) 8 0 12 (nI (n + 1)))) : wp_X9_buyer w S post := by
  have hin : vp_in (nI n) 30 := vp_in_nI (by omega) (by omega)
  have rr : nI (n + 1) - 1 = nI n := by rw [← nI_1]; grind
  unfold wp_X9_buyer
  rw [h1, nI_clamp (by omega)]
  refine ⟨fun c => absurd ((nI_eq (b := 30) (by omega) (by omega)).mp c) (by omega), fun _ => ⟨fun c => absurd c (Int64.not_lt.mpr w0), fun _ => ⟨fun _ => ⟨hin, fun S2 e2 => ?_⟩, fun c => absurd w1 c⟩⟩⟩
  have f2 : gi S2 8 0 12 = nI n := by rw [e2]; exact h1
  rw [f2, nI_clamp (by omega)]
  refine ⟨hin, fun S4 e4 => ?_⟩
  have f4 : gi S4 8 0 12 = nI n := by rw [e4]; exact f2
  rw [f4, nI_1]
  intro S5 e5
  have f5 : gi S5 8 0 12 = nI (n + 1) := by rw [e5, gi_si]; exact if_pos ⟨rfl, rfl, rfl⟩
  rw [f5, rr, e5, e4, e2]
  exact hp
theorem c_buyer {S : St} {n : Nat} {w : Int64} (h1 : gi S 7 0 7 = nI n) (h2 : gn S 1 = n) (hn : n < 30) (w0 : (0 : Int64) ≤ w) (w1 : w ≤ (1000000000000 : Int64)) {post : Int32 → St → Prop}
    (hp : post (nI n) (si (sr (sj (sj (si (sn S 1) 1 n 0 (nI n)) 1 n 1 w) 1 n 3 (-1)) 11 0 n (some n)) 7 0 7 (nI (n + 1)))) : wp_X8_buyer w S post := by
  unfold wp_X8_buyer wp_X1_init
  rw [h1]
  intro v1 e1
  subst e1
  refine ⟨fun c => absurd c (nI_pos (by omega)), fun _ => ⟨fun c => absurd c (nI_ge (b := 30) hn (by omega)), fun _ => c_isWithin (fun _ _ => ⟨fun _ S6 e6 => ?_, fun c => absurd c (by decide)⟩) (fun c => absurd c (fun q => q.elim (Int64.not_lt.mpr w0) (Int64.not_lt.mpr w1)))⟩⟩
  rw [h2]
  subst e6
  intro S1 e1 S2 e2 S3 e3
  subst e1; subst e2; subst e3
  refine ⟨vp_in_nI (by omega) (by omega), fun S7 e7 => ?_⟩
  subst e7
  intro S8 e8
  subst e8
  rw [nI_clamp (by omega), nI_1]
  exact hp
theorem b_buyer {S : St} (hI : Inv S) (w : Int64) : Both (wp_X8_buyer w) (wp_X9_buyer w) S := by
  obtain ⟨ob, h, hk⟩ := id hI
  have hB := hk.1.2.2.2.1
  have hL := hk.1.2.1
  have g0 : gi S 8 0 12 = nI (aB (pr S)) := (gi_pr rfl).trans hk.1.2.2.1
  have g7 : gi S 7 0 7 = nI (aB (pr S)) := h.1.2.1.trans hk.1.2.2.1
  have gn1 : gn S 1 = aB (pr S) := h.1.2.2.2.2.1
  by_cases hw : ((0 : Int64) ≤ w ∧ w ≤ (1000000000000 : Int64)) ∧ aB (pr S) ≠ 30
  · obtain ⟨⟨a1, a2⟩, a3⟩ := hw
    refine ⟨nI (aB (pr S)), (si (sr (sj (sj (si (sn S 1) 1 (aB (pr S)) 0 (nI (aB (pr S)))) 1 (aB (pr S)) 1 w) 1 (aB (pr S)) 3 (-1)) 11 0 (aB (pr S)) (some (aB (pr S)))) 7 0 7 (nI (aB (pr S) + 1))), (si (sj (sj (si (sr (sj (sj (si (sn S 1) 1 (aB (pr S)) 0 (nI (aB (pr S)))) 1 (aB (pr S)) 1 w) 1 (aB (pr S)) 3 (-1)) 11 0 (aB (pr S)) (some (aB (pr S)))) 7 0 7 (nI (aB (pr S) + 1))) 28 0 (aB (pr S)) w) 30 0 (aB (pr S)) (-1)) 8 0 12 (nI (aB (pr S) + 1))), fun post hp => c_buyer g7 gn1 (by omega) a1 a2 hp, fun post hp => ?_, ?_⟩
    · have hz : gi (si (sr (sj (sj (si (sn S 1) 1 (aB (pr S)) 0 (nI (aB (pr S)))) 1 (aB (pr S)) 1 w) 1 (aB (pr S)) 3 (-1)) 11 0 (aB (pr S)) (some (aB (pr S)))) 7 0 7 (nI (aB (pr S) + 1))) 8 0 12 = nI (aB (pr S)) := g0
      generalize (si (sr (sj (sj (si (sn S 1) 1 (aB (pr S)) 0 (nI (aB (pr S)))) 1 (aB (pr S)) 1 w) 1 (aB (pr S)) 3 (-1)) 11 0 (aB (pr S)) (some (aB (pr S)))) 7 0 7 (nI (aB (pr S) + 1))) = T at *
      exact r_buyer hz (by omega) a1 a2 hp
    · have i0 : 0 ≤ w.toInt := Int64.le_iff_toInt_le.mp a1
      have i1 : w.toInt ≤ 1000000000000 := Int64.le_iff_toInt_le.mp a2
      have ec : (nI (aB (pr S) + 1)).toNatClampNeg = aB (pr S) + 1 := nI_clamp (by omega)
      clear g7 g0 hI a1 a2
      refine ⟨ob, ?_⟩
      rw [pr_si rfl, pr_sj rfl, pr_sj rfl, pr_siC rfl, pr_sr, pr_sjC rfl, pr_sjC rfl, pr_siC rfl, pr_sn rfl]
      obtain ⟨hCRc, hCRl, hCRt, hCRo, hCRb, hCRp, hCRk, hCRd, hCRs, hCRr⟩ := h
      obtain ⟨hOkC, hOkL, hOkT, hOkN, hOkB, hOkP, hOkD, hOkZ, hOkR⟩ := hk
      generalize pr S = a at *
      refine ⟨⟨?_, ?_, ?_, ?_, ?_, ?_, ?_, ?_, ?_, ?_⟩, ?_, ?_, ?_, ?_, ?_, ?_, ?_, ?_, ?_⟩
      · (try simp (disch := simp [nf, nk]) only [CRc_wi, CRc_wj, CRc_si, CRc_sj, CRc_sr, CRc_sn])
        unfold CRc at *
        simp [qi_wi, qi_wj, qj_wi, qj_wj, gi_si, gi_sj, gi_sr, gj_si, gj_sj, gj_sr, gr_si, gr_sj, gr_sr, gn_si, gn_sj, gn_sr, gi_sn, gj_sn, gr_sn, gn_sn, aL_wi, aL_wj, aB_wi, aB_wj, aD_wi, aD_wj, aR_wi, aR_wj, sT_wi, sT_wj, lastA_wj, lastA_wi, prevA_wj, prevA_wi, ec]
        grind
      · (simp (disch := simp [nf, nk]) only [CRl_wi, CRl_wj, CRl_si, CRl_sj, CRl_sr, CRl_sn]; exact hCRl)
      · (simp (disch := simp [nf, nk]) only [CRt_wi, CRt_wj, CRt_si, CRt_sj, CRt_sr, CRt_sn]; exact hCRt)
      · (simp (disch := simp [nf, nk]) only [CRo_wi, CRo_wj, CRo_si, CRo_sj, CRo_sr, CRo_sn]; exact hCRo)
      · (try simp (disch := simp [nf, nk]) only [CRb_wi, CRb_wj, CRb_si, CRb_sj, CRb_sr, CRb_sn])
        intro i hi
        have hi : i < aB a + 1 := (by simpa [qi_wi, qi_wj, qj_wi, qj_wj, gi_si, gi_sj, gi_sr, gj_si, gj_sj, gj_sr, gr_si, gr_sj, gr_sr, gn_si, gn_sj, gn_sr, gi_sn, gj_sn, gr_sn, gn_sn, aL_wi, aL_wj, aB_wi, aB_wj, aD_wi, aD_wj, aR_wi, aR_wj, sT_wi, sT_wj, lastA_wj, lastA_wi, prevA_wj, prevA_wi, ec] using hi)
        rcases (show i < aB a ∨ i = aB a by omega) with q | rfl
        · have ne : i ≠ aB a := (by omega)
          simp [qi_wi, qi_wj, qj_wi, qj_wj, gi_si, gi_sj, gi_sr, gj_si, gj_sj, gj_sr, gr_si, gr_sj, gr_sr, gn_si, gn_sj, gn_sr, gi_sn, gj_sn, gr_sn, gn_sn, aL_wi, aL_wj, aB_wi, aB_wj, aD_wi, aD_wj, aR_wi, aR_wj, sT_wi, sT_wj, lastA_wj, lastA_wi, prevA_wj, prevA_wi, ne, gn1]; exact hCRb i q
        · simp [qi_wi, qi_wj, qj_wi, qj_wj, gi_si, gi_sj, gi_sr, gj_si, gj_sj, gj_sr, gr_si, gr_sj, gr_sr, gn_si, gn_sj, gn_sr, gi_sn, gj_sn, gr_sn, gn_sn, aL_wi, aL_wj, aB_wi, aB_wj, aD_wi, aD_wj, aR_wi, aR_wj, sT_wi, sT_wj, lastA_wj, lastA_wi, prevA_wj, prevA_wi, gn1, hOkZ.2.1 (aB a) (Nat.le_refl _)]
      · (try simp (disch := simp [nf, nk]) only [CRp_wi, CRp_wj, CRp_si, CRp_sj, CRp_sr, CRp_sn])
        intro i hi
        have hi : i < aB a + 1 := (by simpa [qi_wi, qi_wj, qj_wi, qj_wj, gi_si, gi_sj, gi_sr, gj_si, gj_sj, gj_sr, gr_si, gr_sj, gr_sr, gn_si, gn_sj, gn_sr, gi_sn, gj_sn, gr_sn, gn_sn, aL_wi, aL_wj, aB_wi, aB_wj, aD_wi, aD_wj, aR_wi, aR_wj, sT_wi, sT_wj, lastA_wj, lastA_wi, prevA_wj, prevA_wi, ec] using hi)
        rcases (show i < aB a ∨ i = aB a by omega) with q | rfl
        · have ne : i ≠ aB a := (by omega)
          simp [qi_wi, qi_wj, qj_wi, qj_wj, gi_si, gi_sj, gi_sr, gj_si, gj_sj, gj_sr, gr_si, gr_sj, gr_sr, gn_si, gn_sj, gn_sr, gi_sn, gj_sn, gr_sn, gn_sn, aL_wi, aL_wj, aB_wi, aB_wj, aD_wi, aD_wj, aR_wi, aR_wj, sT_wi, sT_wj, lastA_wj, lastA_wi, prevA_wj, prevA_wi, ne, gn1]; exact hCRp i q
        · simp [qi_wi, qi_wj, qj_wi, qj_wj, gi_si, gi_sj, gi_sr, gj_si, gj_sj, gj_sr, gr_si, gr_sj, gr_sr, gn_si, gn_sj, gn_sr, gi_sn, gj_sn, gr_sn, gn_sn, aL_wi, aL_wj, aB_wi, aB_wj, aD_wi, aD_wj, aR_wi, aR_wj, sT_wi, sT_wj, lastA_wj, lastA_wi, prevA_wj, prevA_wi, gn1]
      · (simp (disch := simp [nf, nk]) only [CRk_wi, CRk_wj, CRk_si, CRk_sj, CRk_sr, CRk_sn]; exact hCRk)
      · (simp (disch := simp [nf, nk]) only [CRd_wi, CRd_wj, CRd_si, CRd_sj, CRd_sr, CRd_sn]; exact hCRd)
      · (simp (disch := simp [nf, nk]) only [CRs_wi, CRs_wj, CRs_si, CRs_sj, CRs_sr, CRs_sn]; exact hCRs)
      · (simp (disch := simp [nf, nk]) only [CRr_wi, CRr_wj, CRr_si, CRr_sj, CRr_sr, CRr_sn]; exact hCRr)
      · (try simp (disch := simp [nf, nk]) only [OkC_wi, OkC_wj])
        obtain ⟨c1, c2, c3, c4, c5, c6, c7, c8⟩ := hOkC
        exact ⟨by simpa [qi_wi, qi_wj, qj_wi, qj_wj, gi_si, gi_sj, gi_sr, gj_si, gj_sj, gj_sr, gr_si, gr_sj, gr_sr, gn_si, gn_sj, gn_sr, gi_sn, gj_sn, gr_sn, gn_sn, aL_wi, aL_wj, aB_wi, aB_wj, aD_wi, aD_wj, aR_wi, aR_wj, sT_wi, sT_wj, lastA_wj, lastA_wi, prevA_wj, prevA_wi, capS_wj, capS_wi] using c1, by simpa [qi_wi, qi_wj, qj_wi, qj_wj, gi_si, gi_sj, gi_sr, gj_si, gj_sj, gj_sr, gr_si, gr_sj, gr_sr, gn_si, gn_sj, gn_sr, gi_sn, gj_sn, gr_sn, gn_sn, aL_wi, aL_wj, aB_wi, aB_wj, aD_wi, aD_wj, aR_wi, aR_wj, sT_wi, sT_wj, lastA_wj, lastA_wi, prevA_wj, prevA_wi, capS_wj, capS_wi] using c2, by simp [qi_wi, qi_wj, qj_wi, qj_wj, gi_si, gi_sj, gi_sr, gj_si, gj_sj, gj_sr, gr_si, gr_sj, gr_sr, gn_si, gn_sj, gn_sr, gi_sn, gj_sn, gr_sn, gn_sn, aL_wi, aL_wj, aB_wi, aB_wj, aD_wi, aD_wj, aR_wi, aR_wj, sT_wi, sT_wj, lastA_wj, lastA_wi, prevA_wj, prevA_wi, ec], by simp [qi_wi, qi_wj, qj_wi, qj_wj, gi_si, gi_sj, gi_sr, gj_si, gj_sj, gj_sr, gr_si, gr_sj, gr_sr, gn_si, gn_sj, gn_sr, gi_sn, gj_sn, gr_sn, gn_sn, aL_wi, aL_wj, aB_wi, aB_wj, aD_wi, aD_wj, aR_wi, aR_wj, sT_wi, sT_wj, lastA_wj, lastA_wi, prevA_wj, prevA_wi, ec]; omega, by simpa [qi_wi, qi_wj, qj_wi, qj_wj, gi_si, gi_sj, gi_sr, gj_si, gj_sj, gj_sr, gr_si, gr_sj, gr_sr, gn_si, gn_sj, gn_sr, gi_sn, gj_sn, gr_sn, gn_sn, aL_wi, aL_wj, aB_wi, aB_wj, aD_wi, aD_wj, aR_wi, aR_wj, sT_wi, sT_wj, lastA_wj, lastA_wi, prevA_wj, prevA_wi, capS_wj, capS_wi] using c5, by simpa [qi_wi, qi_wj, qj_wi, qj_wj, gi_si, gi_sj, gi_sr, gj_si, gj_sj, gj_sr, gr_si, gr_sj, gr_sr, gn_si, gn_sj, gn_sr, gi_sn, gj_sn, gr_sn, gn_sn, aL_wi, aL_wj, aB_wi, aB_wj, aD_wi, aD_wj, aR_wi, aR_wj, sT_wi, sT_wj, lastA_wj, lastA_wi, prevA_wj, prevA_wi, capS_wj, capS_wi] using c6, by simpa [qi_wi, qi_wj, qj_wi, qj_wj, gi_si, gi_sj, gi_sr, gj_si, gj_sj, gj_sr, gr_si, gr_sj, gr_sr, gn_si, gn_sj, gn_sr, gi_sn, gj_sn, gr_sn, gn_sn, aL_wi, aL_wj, aB_wi, aB_wj, aD_wi, aD_wj, aR_wi, aR_wj, sT_wi, sT_wj, lastA_wj, lastA_wi, prevA_wj, prevA_wi, capS_wj, capS_wi] using c7, by simpa [qi_wi, qi_wj, qj_wi, qj_wj, gi_si, gi_sj, gi_sr, gj_si, gj_sj, gj_sr, gr_si, gr_sj, gr_sr, gn_si, gn_sj, gn_sr, gi_sn, gj_sn, gr_sn, gn_sn, aL_wi, aL_wj, aB_wi, aB_wj, aD_wi, aD_wj, aR_wi, aR_wj, sT_wi, sT_wj, lastA_wj, lastA_wi, prevA_wj, prevA_wi, capS_wi, capS_wj] using c8⟩
      · (simp (disch := simp [nf, nk]) only [OkL_wi, OkL_wj]; exact hOkL)
      · (simp (disch := simp [nf, nk]) only [OkT_wi, OkT_wj]; exact hOkT)
      · (simp (disch := simp [nf, nk]) only [OkN_wi, OkN_wj]; exact hOkN)
      · (try simp (disch := simp [nf, nk]) only [OkB_wi, OkB_wj])
        intro b hb
        have hb : b < aB a + 1 := (by simpa [qi_wi, qi_wj, qj_wi, qj_wj, gi_si, gi_sj, gi_sr, gj_si, gj_sj, gj_sr, gr_si, gr_sj, gr_sr, gn_si, gn_sj, gn_sr, gi_sn, gj_sn, gr_sn, gn_sn, aL_wi, aL_wj, aB_wi, aB_wj, aD_wi, aD_wj, aR_wi, aR_wj, sT_wi, sT_wj, lastA_wj, lastA_wi, prevA_wj, prevA_wi, ec] using hb)
        have e : heldZ (wi (wj (wj a 28 (aB a) w) 30 (aB a) (-1)) 8 12 (nI (aB a + 1))) b (aL (wi (wj (wj a 28 (aB a) w) 30 (aB a) (-1)) 8 12 (nI (aB a + 1)))) = heldZ a b (aL a) := heldZ_c (fun i hi => hvZ_c (by simp [qi_wi, qi_wj, qj_wi, qj_wj, gi_si, gi_sj, gi_sr, gj_si, gj_sj, gj_sr, gr_si, gr_sj, gr_sr, gn_si, gn_sj, gn_sr, gi_sn, gj_sn, gr_sn, gn_sn, aL_wi, aL_wj, aB_wi, aB_wj, aD_wi, aD_wj, aR_wi, aR_wj, sT_wi, sT_wj, lastA_wj, lastA_wi, prevA_wj, prevA_wi, heldZ_wj, heldZ_wi]) (by simp [qi_wi, qi_wj, qj_wi, qj_wj, gi_si, gi_sj, gi_sr, gj_si, gj_sj, gj_sr, gr_si, gr_sj, gr_sr, gn_si, gn_sj, gn_sr, gi_sn, gj_sn, gr_sn, gn_sn, aL_wi, aL_wj, aB_wi, aB_wj, aD_wi, aD_wj, aR_wi, aR_wj, sT_wi, sT_wj, lastA_wj, lastA_wi, prevA_wj, prevA_wi, heldZ_wj, heldZ_wi]) (by simp [qi_wi, qi_wj, qj_wi, qj_wj, gi_si, gi_sj, gi_sr, gj_si, gj_sj, gj_sr, gr_si, gr_sj, gr_sr, gn_si, gn_sj, gn_sr, gi_sn, gj_sn, gr_sn, gn_sn, aL_wi, aL_wj, aB_wi, aB_wj, aD_wi, aD_wj, aR_wi, aR_wj, sT_wi, sT_wj, lastA_wj, lastA_wi, prevA_wj, prevA_wi, heldZ_wj, heldZ_wi]))
        rw [e]
        rcases (show b < aB a ∨ b = aB a by omega) with q | rfl
        · have ne : b ≠ aB a := (by omega)
          simp [qi_wi, qi_wj, qj_wi, qj_wj, gi_si, gi_sj, gi_sr, gj_si, gj_sj, gj_sr, gr_si, gr_sj, gr_sr, gn_si, gn_sj, gn_sr, gi_sn, gj_sn, gr_sn, gn_sn, aL_wi, aL_wj, aB_wi, aB_wj, aD_wi, aD_wj, aR_wi, aR_wj, sT_wi, sT_wj, lastA_wj, lastA_wi, prevA_wj, prevA_wi, ne]; exact hOkB b q
        · have e0 : heldZ a (aB a) (aL a) = 0 := heldZ_0 (fun i hi => (by
            unfold hvZ
            refine if_neg (fun q => ?_)
            obtain ⟨b, hb, eb⟩ := hOkZ.2.2 i hi q.1.symm
            have := (nI_eq (by omega) (by omega)).mp (eb.symm.trans q.2)
            omega))
          have z := hOkZ.2.1 (aB a) (Nat.le_refl _)
          simp [qi_wi, qi_wj, qj_wi, qj_wj, gi_si, gi_sj, gi_sr, gj_si, gj_sj, gj_sr, gr_si, gr_sj, gr_sr, gn_si, gn_sj, gn_sr, gi_sn, gj_sn, gr_sn, gn_sn, aL_wi, aL_wj, aB_wi, aB_wj, aD_wi, aD_wj, aR_wi, aR_wj, sT_wi, sT_wj, lastA_wj, lastA_wi, prevA_wj, prevA_wi, e0, z, i0, i1]
      · (try simp (disch := simp [nf, nk]) only [OkP_wi, OkP_wj])
        intro hn b hb
        have hb : b < aB a + 1 := (by simpa [qi_wi, qi_wj, qj_wi, qj_wj, gi_si, gi_sj, gi_sr, gj_si, gj_sj, gj_sr, gr_si, gr_sj, gr_sr, gn_si, gn_sj, gn_sr, gi_sn, gj_sn, gr_sn, gn_sn, aL_wi, aL_wj, aB_wi, aB_wj, aD_wi, aD_wj, aR_wi, aR_wj, sT_wi, sT_wj, lastA_wj, lastA_wi, prevA_wj, prevA_wi, ec] using hb)
        rcases (show b < aB a ∨ b = aB a by omega) with q | rfl
        · have ne : b ≠ aB a := (by omega)
          have := hOkP (by simpa [qi_wi, qi_wj, qj_wi, qj_wj, gi_si, gi_sj, gi_sr, gj_si, gj_sj, gj_sr, gr_si, gr_sj, gr_sr, gn_si, gn_sj, gn_sr, gi_sn, gj_sn, gr_sn, gn_sn, aL_wi, aL_wj, aB_wi, aB_wj, aD_wi, aD_wj, aR_wi, aR_wj, sT_wi, sT_wj, lastA_wj, lastA_wi, prevA_wj, prevA_wi] using hn) b q
          simpa [qi_wi, qi_wj, qj_wi, qj_wj, gi_si, gi_sj, gi_sr, gj_si, gj_sj, gj_sr, gr_si, gr_sj, gr_sr, gn_si, gn_sj, gn_sr, gi_sn, gj_sn, gr_sn, gn_sn, aL_wi, aL_wj, aB_wi, aB_wj, aD_wi, aD_wj, aR_wi, aR_wj, sT_wi, sT_wj, lastA_wj, lastA_wi, prevA_wj, prevA_wi, ne] using this
        · simp [qi_wi, qi_wj, qj_wi, qj_wj, gi_si, gi_sj, gi_sr, gj_si, gj_sj, gj_sr, gr_si, gr_sj, gr_sr, gn_si, gn_sj, gn_sr, gi_sn, gj_sn, gr_sn, gn_sn, aL_wi, aL_wj, aB_wi, aB_wj, aD_wi, aD_wj, aR_wi, aR_wj, sT_wi, sT_wj, lastA_wj, lastA_wi, prevA_wj, prevA_wi]
      · (try simp (disch := simp [nf, nk]) only [OkD_wi, OkD_wj])
        intro k hk
        obtain ⟨⟨b, hb, eb⟩, q⟩ := hOkD k (by simpa [qi_wi, qi_wj, qj_wi, qj_wj, gi_si, gi_sj, gi_sr, gj_si, gj_sj, gj_sr, gr_si, gr_sj, gr_sr, gn_si, gn_sj, gn_sr, gi_sn, gj_sn, gr_sn, gn_sn, aL_wi, aL_wj, aB_wi, aB_wj, aD_wi, aD_wj, aR_wi, aR_wj, sT_wi, sT_wj, lastA_wj, lastA_wi, prevA_wj, prevA_wi] using hk)
        exact ⟨⟨b, by simp [qi_wi, qi_wj, qj_wi, qj_wj, gi_si, gi_sj, gi_sr, gj_si, gj_sj, gj_sr, gr_si, gr_sj, gr_sr, gn_si, gn_sj, gn_sr, gi_sn, gj_sn, gr_sn, gn_sn, aL_wi, aL_wj, aB_wi, aB_wj, aD_wi, aD_wj, aR_wi, aR_wj, sT_wi, sT_wj, lastA_wj, lastA_wi, prevA_wj, prevA_wi, ec]; omega, by simpa [qi_wi, qi_wj, qj_wi, qj_wj, gi_si, gi_sj, gi_sr, gj_si, gj_sj, gj_sr, gr_si, gr_sj, gr_sr, gn_si, gn_sj, gn_sr, gi_sn, gj_sn, gr_sn, gn_sn, aL_wi, aL_wj, aB_wi, aB_wj, aD_wi, aD_wj, aR_wi, aR_wj, sT_wi, sT_wj, lastA_wj, lastA_wi, prevA_wj, prevA_wi] using eb⟩, by simpa [qi_wi, qi_wj, qj_wi, qj_wj, gi_si, gi_sj, gi_sr, gj_si, gj_sj, gj_sr, gr_si, gr_sj, gr_sr, gn_si, gn_sj, gn_sr, gi_sn, gj_sn, gr_sn, gn_sn, aL_wi, aL_wj, aB_wi, aB_wj, aD_wi, aD_wj, aR_wi, aR_wj, sT_wi, sT_wj, lastA_wj, lastA_wi, prevA_wj, prevA_wi] using q⟩
      · (try simp (disch := simp [nf, nk]) only [OkZ_wi, OkZ_wj])
        refine ⟨by simpa [qi_wi, qi_wj, qj_wi, qj_wj, gi_si, gi_sj, gi_sr, gj_si, gj_sj, gj_sr, gr_si, gr_sj, gr_sr, gn_si, gn_sj, gn_sr, gi_sn, gj_sn, gr_sn, gn_sn, aL_wi, aL_wj, aB_wi, aB_wj, aD_wi, aD_wj, aR_wi, aR_wj, sT_wi, sT_wj, lastA_wj, lastA_wi, prevA_wj, prevA_wi] using hOkZ.1, fun i hi => ?_, fun i hi hs => ?_⟩
        · have hi : aB a + 1 ≤ i := (by simpa [qi_wi, qi_wj, qj_wi, qj_wj, gi_si, gi_sj, gi_sr, gj_si, gj_sj, gj_sr, gr_si, gr_sj, gr_sr, gn_si, gn_sj, gn_sr, gi_sn, gj_sn, gr_sn, gn_sn, aL_wi, aL_wj, aB_wi, aB_wj, aD_wi, aD_wj, aR_wi, aR_wj, sT_wi, sT_wj, lastA_wj, lastA_wi, prevA_wj, prevA_wi, ec] using hi)
          have := hOkZ.2.1 i (by omega)
          simpa [qi_wi, qi_wj, qj_wi, qj_wj, gi_si, gi_sj, gi_sr, gj_si, gj_sj, gj_sr, gr_si, gr_sj, gr_sr, gn_si, gn_sj, gn_sr, gi_sn, gj_sn, gr_sn, gn_sn, aL_wi, aL_wj, aB_wi, aB_wj, aD_wi, aD_wj, aR_wi, aR_wj, sT_wi, sT_wj, lastA_wj, lastA_wi, prevA_wj, prevA_wi] using this
        · obtain ⟨b, hb, eb⟩ := hOkZ.2.2 i (by simpa [qi_wi, qi_wj, qj_wi, qj_wj, gi_si, gi_sj, gi_sr, gj_si, gj_sj, gj_sr, gr_si, gr_sj, gr_sr, gn_si, gn_sj, gn_sr, gi_sn, gj_sn, gr_sn, gn_sn, aL_wi, aL_wj, aB_wi, aB_wj, aD_wi, aD_wj, aR_wi, aR_wj, sT_wi, sT_wj, lastA_wj, lastA_wi, prevA_wj, prevA_wi] using hi) (by simpa [qi_wi, qi_wj, qj_wi, qj_wj, gi_si, gi_sj, gi_sr, gj_si, gj_sj, gj_sr, gr_si, gr_sj, gr_sr, gn_si, gn_sj, gn_sr, gi_sn, gj_sn, gr_sn, gn_sn, aL_wi, aL_wj, aB_wi, aB_wj, aD_wi, aD_wj, aR_wi, aR_wj, sT_wi, sT_wj, lastA_wj, lastA_wi, prevA_wj, prevA_wi] using hs)
          exact ⟨b, by simp [qi_wi, qi_wj, qj_wi, qj_wj, gi_si, gi_sj, gi_sr, gj_si, gj_sj, gj_sr, gr_si, gr_sj, gr_sr, gn_si, gn_sj, gn_sr, gi_sn, gj_sn, gr_sn, gn_sn, aL_wi, aL_wj, aB_wi, aB_wj, aD_wi, aD_wj, aR_wi, aR_wj, sT_wi, sT_wj, lastA_wj, lastA_wi, prevA_wj, prevA_wi, ec]; omega, by simpa [qi_wi, qi_wj, qj_wi, qj_wj, gi_si, gi_sj, gi_sr, gj_si, gj_sj, gj_sr, gr_si, gr_sj, gr_sr, gn_si, gn_sj, gn_sr, gi_sn, gj_sn, gr_sn, gn_sn, aL_wi, aL_wj, aB_wi, aB_wj, aD_wi, aD_wj, aR_wi, aR_wj, sT_wi, sT_wj, lastA_wj, lastA_wi, prevA_wj, prevA_wi] using eb⟩
      · (simp (disch := simp [nf, nk]) only [OkR_wi, OkR_wj]; exact hOkR)
  · refine Both.ro hI (-1) (fun post hp => ?_) (fun post hp => ?_)
    · unfold wp_X8_buyer
      intro v1 e1
      rw [g7] at e1
      subst e1
      refine ⟨fun _ => hp, fun _ => ⟨fun _ => hp, fun c => c_isWithin (fun b1 b2 => ⟨fun _ => ?_, fun _ => hp⟩) (fun _ => ⟨fun c => absurd rfl c, fun _ => hp⟩)⟩⟩
      exact absurd ⟨⟨b1, b2⟩, fun q => c (by rw [q]; decide)⟩ hw
    · refine ⟨fun _ => hp, fun c => ⟨fun _ => hp, fun b1 => ⟨fun b2 => ?_, fun _ => hp⟩⟩⟩
      exact absurd ⟨⟨Int64.not_lt.mp b1, b2⟩, fun q => c (by rw [g0, q]; rfl)⟩ hw
