theorem c_bid {S : St} {a : RS} {ob n b : Nat} {w : Int64} (h : CR S a ob) (hk : OkC a) (hb : b < aB a) (h1 : gi S 7 0 8 = nI n) (h2 : gn S 0 = ob + n) (hn : n < 18) (w0 : (0 : Int64) ≤ w) (w1 : w ≤ (1000000000000 : Int64)) {post : Int32 → St → Prop}
    (hp : post (nI n) (si (sr (sj (si (si (sn S 0) 0 (ob + n) 0 (nI n)) 0 (ob + n) 1 (nI b)) 0 (ob + n) 2 w) 12 0 n (some (ob + n))) 7 0 8 (nI (n + 1)))) : wp_X8_bid (nI b) w S post := by
  unfold wp_X8_bid wp_X0_init
  rw [h1]
  intro v1 e1
  subst e1
  refine c_buyerAtI h hk hb ?_
  refine ⟨fun c => (by cases c), fun j e => ?_⟩
  refine ⟨fun c => absurd c (nI_pos (by omega)), fun _ => ⟨fun _ => c_isWithin (fun _ _ => ⟨fun _ S6 e6 => ?_, fun c => absurd c (by decide)⟩) (fun c => absurd c (fun q => q.elim (Int64.not_lt.mpr w0) (Int64.not_lt.mpr w1))), fun c => absurd (nI_lt (b := 18) hn (by omega)) c⟩⟩
  rw [h2]
  subst e6
  intro S1 e1 S2 e2 S3 e3
  subst e1; subst e2; subst e3
  refine ⟨vp_in_nI (by omega) (by omega), fun S7 e7 => ?_⟩
  subst e7
  intro S8 e8
  subst e8
  rw [nI_clamp (by omega), nI_1]
  exact hp
theorem r_bid {S : St} {n b : Nat} {w : Int64} (hk : OkC (pr S)) (hb : b < aB (pr S)) (h1 : gi S 8 0 23 = nI n) (hn : n < 18) (w0 : (0 : Int64) ≤ w) (w1 : w ≤ (1000000000000 : Int64)) {post : Int32 → St → Prop}
    (hp : post (nI n) (si (sj (sj (si S 31 0 n (nI b)) 32 0 n w) 33 0 n 0) 8 0 23 (nI (n + 1)))) : wp_X9_bid (nI b) w S post := by
  have hin : vp_in (nI n) 18 := vp_in_nI (by omega) (by omega)
  have rr : nI (n + 1) - 1 = nI n := by rw [← nI_1]; grind
  unfold wp_X9_bid
  refine r_isBuyerI hk hb ?_
  rw [h1, nI_clamp (by omega)]
  refine ⟨fun c => absurd c (by decide), fun _ => ⟨fun c => absurd ((nI_eq (b := 18) (by omega) (by omega)).mp c) (by omega), fun _ => ⟨fun c => absurd c (Int64.not_lt.mpr w0), fun _ => ⟨fun _ => ⟨hin, fun S2 e2 => ?_⟩, fun c => absurd w1 c⟩⟩⟩⟩
  have f2 : gi S2 8 0 23 = nI n := by rw [e2]; exact h1
  rw [f2, nI_clamp (by omega)]
  refine ⟨hin, fun S4 e4 => ?_⟩
  have f4 : gi S4 8 0 23 = nI n := by rw [e4]; exact f2
  rw [f4, nI_clamp (by omega)]
  refine ⟨hin, fun S6 e6 => ?_⟩
  have f6 : gi S6 8 0 23 = nI n := by rw [e6]; exact f4
  rw [f6, nI_1]
  intro S5 e5
  have f5 : gi S5 8 0 23 = nI (n + 1) := by rw [e5, gi_si]; exact if_pos ⟨rfl, rfl, rfl⟩
  rw [f5, rr, e5, e6, e4, e2]
  exact hp
theorem b_bid {S : St} (hI : Inv S) (p : Int32) (w : Int64) : Both (wp_X8_bid p w) (wp_X9_bid p w) S := by
  obtain ⟨ob, h, hk⟩ := id hI
  have hB := hk.1.2.2.2.1
  have hD := hk.1.2.2.2.2.2.1
  have g0 : gi S 8 0 23 = nI (aD (pr S)) := (gi_pr rfl).trans hk.1.2.2.2.2.1
  have g7 : gi S 7 0 8 = nI (aD (pr S)) := h.1.2.2.1.trans hk.1.2.2.2.2.1
  have gn0 : gn S 0 = ob + aD (pr S) := h.1.2.2.2.2.2.2
  rcases ix_or p (aB (pr S)) (by omega) with ⟨b, hb, rfl⟩ | hn
  · by_cases hw : ((0 : Int64) ≤ w ∧ w ≤ (1000000000000 : Int64)) ∧ aD (pr S) ≠ 18
    · obtain ⟨⟨a1, a2⟩, a3⟩ := hw
      refine ⟨nI (aD (pr S)), (si (sr (sj (si (si (sn S 0) 0 (ob + aD (pr S)) 0 (nI (aD (pr S)))) 0 (ob + aD (pr S)) 1 (nI b)) 0 (ob + aD (pr S)) 2 w) 12 0 (aD (pr S)) (some (ob + aD (pr S)))) 7 0 8 (nI (aD (pr S) + 1))), (si (sj (sj (si (si (sr (sj (si (si (sn S 0) 0 (ob + aD (pr S)) 0 (nI (aD (pr S)))) 0 (ob + aD (pr S)) 1 (nI b)) 0 (ob + aD (pr S)) 2 w) 12 0 (aD (pr S)) (some (ob + aD (pr S)))) 7 0 8 (nI (aD (pr S) + 1))) 31 0 (aD (pr S)) (nI b)) 32 0 (aD (pr S)) w) 33 0 (aD (pr S)) 0) 8 0 23 (nI (aD (pr S) + 1))), fun post hp => c_bid h hk.1 hb g7 gn0 (by omega) a1 a2 hp, fun post hp => ?_, ?_⟩
      · have hz : gi (si (sr (sj (si (si (sn S 0) 0 (ob + aD (pr S)) 0 (nI (aD (pr S)))) 0 (ob + aD (pr S)) 1 (nI b)) 0 (ob + aD (pr S)) 2 w) 12 0 (aD (pr S)) (some (ob + aD (pr S)))) 7 0 8 (nI (aD (pr S) + 1))) 8 0 23 = nI (aD (pr S)) := g0
        have hq : pr (si (sr (sj (si (si (sn S 0) 0 (ob + aD (pr S)) 0 (nI (aD (pr S)))) 0 (ob + aD (pr S)) 1 (nI b)) 0 (ob + aD (pr S)) 2 w) 12 0 (aD (pr S)) (some (ob + aD (pr S)))) 7 0 8 (nI (aD (pr S) + 1))) = pr S := by rw [pr_siC rfl, pr_sr, pr_sjC rfl, pr_siC rfl, pr_siC rfl, pr_sn rfl]
        have k1 : OkC (pr (si (sr (sj (si (si (sn S 0) 0 (ob + aD (pr S)) 0 (nI (aD (pr S)))) 0 (ob + aD (pr S)) 1 (nI b)) 0 (ob + aD (pr S)) 2 w) 12 0 (aD (pr S)) (some (ob + aD (pr S)))) 7 0 8 (nI (aD (pr S) + 1)))) := by rw [hq]; exact hk.1
        have k2 : b < aB (pr (si (sr (sj (si (si (sn S 0) 0 (ob + aD (pr S)) 0 (nI (aD (pr S)))) 0 (ob + aD (pr S)) 1 (nI b)) 0 (ob + aD (pr S)) 2 w) 12 0 (aD (pr S)) (some (ob + aD (pr S)))) 7 0 8 (nI (aD (pr S) + 1)))) := by rw [hq]; exact hb
        clear hq
        generalize (si (sr (sj (si (si (sn S 0) 0 (ob + aD (pr S)) 0 (nI (aD (pr S)))) 0 (ob + aD (pr S)) 1 (nI b)) 0 (ob + aD (pr S)) 2 w) 12 0 (aD (pr S)) (some (ob + aD (pr S)))) 7 0 8 (nI (aD (pr S) + 1))) = T at *
        exact r_bid k1 k2 hz (by omega) a1 a2 hp
      · have i0 : 0 ≤ w.toInt := Int64.le_iff_toInt_le.mp a1
        have i1 : w.toInt ≤ 1000000000000 := Int64.le_iff_toInt_le.mp a2
        have ec : (nI (aD (pr S) + 1)).toNatClampNeg = aD (pr S) + 1 := nI_clamp (by omega)
        clear g7 g0 hI a1 a2
        refine ⟨ob, ?_⟩
        rw [pr_si rfl, pr_sj rfl, pr_sj rfl, pr_si rfl, pr_siC rfl, pr_sr, pr_sjC rfl, pr_siC rfl, pr_siC rfl, pr_sn rfl]
        obtain ⟨hCRc, hCRl, hCRt, hCRo, hCRb, hCRp, hCRk, hCRd, hCRs, hCRr⟩ := h
        obtain ⟨hOkC, hOkL, hOkT, hOkN, hOkB, hOkP, hOkD, hOkZ, hOkR⟩ := hk
        generalize pr S = a at *
        refine ⟨⟨?_, ?_, ?_, ?_, ?_, ?_, ?_, ?_, ?_, ?_⟩, ?_, ?_, ?_, ?_, ?_, ?_, ?_, ?_, ?_⟩
        · (try simp (disch := simp [nf, nk]) only [CRc_wi, CRc_wj, CRc_si, CRc_sj, CRc_sr, CRc_sn])
          unfold CRc at *
          simp [qi_wi, qi_wj, qj_wi, qj_wj, gi_si, gi_sj, gi_sr, gj_si, gj_sj, gj_sr, gr_si, gr_sj, gr_sr, gn_si, gn_sj, gn_sr, gi_sn, gj_sn, gr_sn, gn_sn, aL_wi, aL_wj, aB_wi, aB_wj, aD_wi, aD_wj, aR_wi, aR_wj, sT_wi, sT_wj, lastA_wj, lastA_wi, prevA_wj, prevA_wi, ec]
          grind
        · (simp (disch := simp [nf, nk]) only [CRl_wi, CRl_wj, CRl_si, CRl_sj, CRl_sr, CRl_sn]; exact hCRl)
        · (simp (disch := simp [nf, nk]) only [CRt_wi, CRt_wj, CRt_si, CRt_sj, CRt_sr, CRt_sn]; exact hCRt)
        · (simp (disch := simp [nf, nk]) only [CRo_wi, CRo_wj, CRo_si, CRo_sj, CRo_sr, CRo_sn]; exact hCRo)
        · (simp (disch := simp [nf, nk]) only [CRb_wi, CRb_wj, CRb_si, CRb_sj, CRb_sr, CRb_sn]; exact hCRb)
        · (simp (disch := simp [nf, nk]) only [CRp_wi, CRp_wj, CRp_si, CRp_sj, CRp_sr, CRp_sn]; exact hCRp)
        · (simp (disch := simp [nf, nk]) only [CRk_wi, CRk_wj, CRk_si, CRk_sj, CRk_sr, CRk_sn]; exact hCRk)
        · (try simp (disch := simp [nf, nk]) only [CRd_wi, CRd_wj, CRd_si, CRd_sj, CRd_sr, CRd_sn])
          intro i hi
          have hi : i < aD a + 1 := (by simpa [qi_wi, qi_wj, qj_wi, qj_wj, gi_si, gi_sj, gi_sr, gj_si, gj_sj, gj_sr, gr_si, gr_sj, gr_sr, gn_si, gn_sj, gn_sr, gi_sn, gj_sn, gr_sn, gn_sn, aL_wi, aL_wj, aB_wi, aB_wj, aD_wi, aD_wj, aR_wi, aR_wj, sT_wi, sT_wj, lastA_wj, lastA_wi, prevA_wj, prevA_wi, ec] using hi)
          rcases (show i < aD a ∨ i = aD a by omega) with q | rfl
          · have ne : i ≠ aD a := (by omega)
            have ne2 : ob + i ≠ ob + aD a := (by omega)
            simp [qi_wi, qi_wj, qj_wi, qj_wj, gi_si, gi_sj, gi_sr, gj_si, gj_sj, gj_sr, gr_si, gr_sj, gr_sr, gn_si, gn_sj, gn_sr, gi_sn, gj_sn, gr_sn, gn_sn, aL_wi, aL_wj, aB_wi, aB_wj, aD_wi, aD_wj, aR_wi, aR_wj, sT_wi, sT_wj, lastA_wj, lastA_wi, prevA_wj, prevA_wi, ne, ne2, gn0]; exact hCRd i q
          · simp [qi_wi, qi_wj, qj_wi, qj_wj, gi_si, gi_sj, gi_sr, gj_si, gj_sj, gj_sr, gr_si, gr_sj, gr_sr, gn_si, gn_sj, gn_sr, gi_sn, gj_sn, gr_sn, gn_sn, aL_wi, aL_wj, aB_wi, aB_wj, aD_wi, aD_wj, aR_wi, aR_wj, sT_wi, sT_wj, lastA_wj, lastA_wi, prevA_wj, prevA_wi, gn0]
        · (simp (disch := simp [nf, nk]) only [CRs_wi, CRs_wj, CRs_si, CRs_sj, CRs_sr, CRs_sn]; exact hCRs)
        · (simp (disch := simp [nf, nk]) only [CRr_wi, CRr_wj, CRr_si, CRr_sj, CRr_sr, CRr_sn]; exact hCRr)
        · (try simp (disch := simp [nf, nk]) only [OkC_wi, OkC_wj])
          obtain ⟨c1, c2, c3, c4, c5, c6, c7, c8⟩ := hOkC
          exact ⟨by simpa [qi_wi, qi_wj, qj_wi, qj_wj, gi_si, gi_sj, gi_sr, gj_si, gj_sj, gj_sr, gr_si, gr_sj, gr_sr, gn_si, gn_sj, gn_sr, gi_sn, gj_sn, gr_sn, gn_sn, aL_wi, aL_wj, aB_wi, aB_wj, aD_wi, aD_wj, aR_wi, aR_wj, sT_wi, sT_wj, lastA_wj, lastA_wi, prevA_wj, prevA_wi, capS_wj, capS_wi] using c1, by simpa [qi_wi, qi_wj, qj_wi, qj_wj, gi_si, gi_sj, gi_sr, gj_si, gj_sj, gj_sr, gr_si, gr_sj, gr_sr, gn_si, gn_sj, gn_sr, gi_sn, gj_sn, gr_sn, gn_sn, aL_wi, aL_wj, aB_wi, aB_wj, aD_wi, aD_wj, aR_wi, aR_wj, sT_wi, sT_wj, lastA_wj, lastA_wi, prevA_wj, prevA_wi, capS_wj, capS_wi] using c2, by simpa [qi_wi, qi_wj, qj_wi, qj_wj, gi_si, gi_sj, gi_sr, gj_si, gj_sj, gj_sr, gr_si, gr_sj, gr_sr, gn_si, gn_sj, gn_sr, gi_sn, gj_sn, gr_sn, gn_sn, aL_wi, aL_wj, aB_wi, aB_wj, aD_wi, aD_wj, aR_wi, aR_wj, sT_wi, sT_wj, lastA_wj, lastA_wi, prevA_wj, prevA_wi, capS_wj, capS_wi] using c3, by simpa [qi_wi, qi_wj, qj_wi, qj_wj, gi_si, gi_sj, gi_sr, gj_si, gj_sj, gj_sr, gr_si, gr_sj, gr_sr, gn_si, gn_sj, gn_sr, gi_sn, gj_sn, gr_sn, gn_sn, aL_wi, aL_wj, aB_wi, aB_wj, aD_wi, aD_wj, aR_wi, aR_wj, sT_wi, sT_wj, lastA_wj, lastA_wi, prevA_wj, prevA_wi, capS_wj, capS_wi] using c4, by simp [qi_wi, qi_wj, qj_wi, qj_wj, gi_si, gi_sj, gi_sr, gj_si, gj_sj, gj_sr, gr_si, gr_sj, gr_sr, gn_si, gn_sj, gn_sr, gi_sn, gj_sn, gr_sn, gn_sn, aL_wi, aL_wj, aB_wi, aB_wj, aD_wi, aD_wj, aR_wi, aR_wj, sT_wi, sT_wj, lastA_wj, lastA_wi, prevA_wj, prevA_wi, ec], by simp [qi_wi, qi_wj, qj_wi, qj_wj, gi_si, gi_sj, gi_sr, gj_si, gj_sj, gj_sr, gr_si, gr_sj, gr_sr, gn_si, gn_sj, gn_sr, gi_sn, gj_sn, gr_sn, gn_sn, aL_wi, aL_wj, aB_wi, aB_wj, aD_wi, aD_wj, aR_wi, aR_wj, sT_wi, sT_wj, lastA_wj, lastA_wi, prevA_wj, prevA_wi, ec]; omega, by simpa [qi_wi, qi_wj, qj_wi, qj_wj, gi_si, gi_sj, gi_sr, gj_si, gj_sj, gj_sr, gr_si, gr_sj, gr_sr, gn_si, gn_sj, gn_sr, gi_sn, gj_sn, gr_sn, gn_sn, aL_wi, aL_wj, aB_wi, aB_wj, aD_wi, aD_wj, aR_wi, aR_wj, sT_wi, sT_wj, lastA_wj, lastA_wi, prevA_wj, prevA_wi, capS_wj, capS_wi] using c7, by simpa [qi_wi, qi_wj, qj_wi, qj_wj, gi_si, gi_sj, gi_sr, gj_si, gj_sj, gj_sr, gr_si, gr_sj, gr_sr, gn_si, gn_sj, gn_sr, gi_sn, gj_sn, gr_sn, gn_sn, aL_wi, aL_wj, aB_wi, aB_wj, aD_wi, aD_wj, aR_wi, aR_wj, sT_wi, sT_wj, lastA_wj, lastA_wi, prevA_wj, prevA_wi, capS_wi, capS_wj] using c8⟩
        · (simp (disch := simp [nf, nk]) only [OkL_wi, OkL_wj]; exact hOkL)
        · (simp (disch := simp [nf, nk]) only [OkT_wi, OkT_wj]; exact hOkT)
        · (simp (disch := simp [nf, nk]) only [OkN_wi, OkN_wj]; exact hOkN)
        · (simp (disch := simp [nf, nk]) only [OkB_wi, OkB_wj]; exact hOkB)
        · (simp (disch := simp [nf, nk]) only [OkP_wi, OkP_wj]; exact hOkP)
        · (try simp (disch := simp [nf, nk]) only [OkD_wi, OkD_wj])
          intro i hi
          have hi : i < aD a + 1 := (by simpa [qi_wi, qi_wj, qj_wi, qj_wj, gi_si, gi_sj, gi_sr, gj_si, gj_sj, gj_sr, gr_si, gr_sj, gr_sr, gn_si, gn_sj, gn_sr, gi_sn, gj_sn, gr_sn, gn_sn, aL_wi, aL_wj, aB_wi, aB_wj, aD_wi, aD_wj, aR_wi, aR_wj, sT_wi, sT_wj, lastA_wj, lastA_wi, prevA_wj, prevA_wi, ec] using hi)
          rcases (show i < aD a ∨ i = aD a by omega) with q | rfl
          · have ne : i ≠ aD a := (by omega)
            simp [qi_wi, qi_wj, qj_wi, qj_wj, gi_si, gi_sj, gi_sr, gj_si, gj_sj, gj_sr, gr_si, gr_sj, gr_sr, gn_si, gn_sj, gn_sr, gi_sn, gj_sn, gr_sn, gn_sn, aL_wi, aL_wj, aB_wi, aB_wj, aD_wi, aD_wj, aR_wi, aR_wj, sT_wi, sT_wj, lastA_wj, lastA_wi, prevA_wj, prevA_wi, ne]; exact hOkD i q
          · refine ⟨⟨b, by simpa [qi_wi, qi_wj, qj_wi, qj_wj, gi_si, gi_sj, gi_sr, gj_si, gj_sj, gj_sr, gr_si, gr_sj, gr_sr, gn_si, gn_sj, gn_sr, gi_sn, gj_sn, gr_sn, gn_sn, aL_wi, aL_wj, aB_wi, aB_wj, aD_wi, aD_wj, aR_wi, aR_wj, sT_wi, sT_wj, lastA_wj, lastA_wi, prevA_wj, prevA_wi] using hb, by simp [qi_wi, qi_wj, qj_wi, qj_wj, gi_si, gi_sj, gi_sr, gj_si, gj_sj, gj_sr, gr_si, gr_sj, gr_sr, gn_si, gn_sj, gn_sr, gi_sn, gj_sn, gr_sn, gn_sn, aL_wi, aL_wj, aB_wi, aB_wj, aD_wi, aD_wj, aR_wi, aR_wj, sT_wi, sT_wj, lastA_wj, lastA_wi, prevA_wj, prevA_wi]⟩, ?_⟩
            simp [qi_wi, qi_wj, qj_wi, qj_wj, gi_si, gi_sj, gi_sr, gj_si, gj_sj, gj_sr, gr_si, gr_sj, gr_sr, gn_si, gn_sj, gn_sr, gi_sn, gj_sn, gr_sn, gn_sn, aL_wi, aL_wj, aB_wi, aB_wj, aD_wi, aD_wj, aR_wi, aR_wj, sT_wi, sT_wj, lastA_wj, lastA_wi, prevA_wj, prevA_wi, i0, i1]
        · (simp (disch := simp [nf, nk]) only [OkZ_wi, OkZ_wj]; exact hOkZ)
        · (simp (disch := simp [nf, nk]) only [OkR_wi, OkR_wj]; exact hOkR)
    · refine Both.ro hI (-1) (fun post hp => ?_) (fun post hp => ?_)
      · unfold wp_X8_bid
        intro v1 e1
        rw [g7] at e1
        subst e1
        refine c_buyerAtI h hk.1 hb ?_
        refine ⟨fun c => (by cases c), fun j e => ?_⟩
        refine ⟨fun _ => hp, fun _ => ⟨fun c => c_isWithin (fun b1 b2 => ⟨fun _ => ?_, fun _ => hp⟩) (fun _ => ⟨fun c => absurd rfl c, fun _ => hp⟩), fun _ => hp⟩⟩
        exact absurd ⟨⟨b1, b2⟩, fun q => absurd c (by rw [q]; decide)⟩ hw
      · refine r_isBuyerI hk.1 hb ?_
        refine ⟨fun c => absurd c (by decide), fun _ => ⟨fun _ => hp, fun c => ⟨fun _ => hp, fun b1 => ⟨fun b2 => ?_, fun _ => hp⟩⟩⟩⟩
        exact absurd ⟨⟨Int64.not_lt.mp b1, b2⟩, fun q => c (by rw [g0, q]; rfl)⟩ hw
  · refine Both.ro hI (-1) (fun post hp => ?_) (fun post hp => ?_)
    · intro v1 e1
      refine c_buyerAtN h hk.1 hn ?_
      exact ⟨fun _ => hp, fun j e => (by cases e)⟩
    · refine r_isBuyerN hk.1 hn ?_
      exact ⟨fun _ => hp, fun c => absurd rfl c⟩
