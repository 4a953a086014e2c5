theorem b_delay {S : St} (hI : Inv S) (p : Int32) (w : Int64) : Both (wp_X8_delay p w) (wp_X9_delay p w) S := by
  obtain ⟨ob, h, hk⟩ := id hI
  have hB := hk.1.2.2.2.1
  rcases ix_or p (aB (pr S)) (by omega) with ⟨b, hb, rfl⟩ | hn
  · by_cases hw : (0 : Int64) ≤ w ∧ w ≤ (5000 : Int64)
    · refine ⟨1, sj S 1 b 2 w, sj (sj S 1 b 2 w) 29 0 b w, fun post hp => ?_, fun post hp => ?_, ?_⟩
      · refine c_buyerAtI h hk.1 hb ?_
        refine ⟨fun c => (by cases c), fun j e => ?_⟩
        cases e
        refine c_isWithin (fun _ _ => ⟨fun _ S6 e6 => by subst e6; exact hp, fun c => absurd c (by decide)⟩) (fun c => ?_)
        exact absurd c (fun q => q.elim (fun z => Int64.not_lt.mpr hw.1 z) (fun z => Int64.not_lt.mpr hw.2 z))
      · have hk1 : OkC (pr (sj S 1 b 2 w)) := by rw [pr_sjC rfl]; exact hk.1
        refine r_isBuyerI hk1 (by rw [pr_sjC rfl]; exact hb) ?_
        refine ⟨fun c => absurd c (by decide), fun _ => ⟨fun c => absurd c (Int64.not_lt.mpr hw.1), fun _ => ⟨fun _ => ⟨vp_in_nI (by omega) (by omega), ?_⟩, fun c => absurd hw.2 c⟩⟩⟩
        rw [nI_clamp (by omega)]
        intro S4 e4
        subst e4; exact hp
      · have h0 := Int64.le_iff_toInt_le.mp hw.1
        have h5 := Int64.le_iff_toInt_le.mp hw.2
        refine ⟨ob, ?_⟩
        rw [pr_sj rfl, pr_sjC rfl]
        obtain ⟨hCRc, hCRl, hCRt, hCRo, hCRb, hCRp, hCRk, hCRd, hCRs, hCRr⟩ := h
        obtain ⟨hOkC, hOkL, hOkT, hOkN, hOkB, hOkP, hOkD, hOkZ, hOkR⟩ := hk
        generalize pr S = a at *
        refine ⟨⟨?_, ?_, ?_, ?_, ?_, ?_, ?_, ?_, ?_, ?_⟩, ?_, ?_, ?_, ?_, ?_, ?_, ?_, ?_, ?_⟩
        · (simp (disch := simp [nf, nk]) only [CRc_wi, CRc_wj, CRc_si, CRc_sj, CRc_sr, CRc_sn]; exact hCRc)
        · (simp (disch := simp [nf, nk]) only [CRl_wi, CRl_wj, CRl_si, CRl_sj, CRl_sr, CRl_sn]; exact hCRl)
        · (simp (disch := simp [nf, nk]) only [CRt_wi, CRt_wj, CRt_si, CRt_sj, CRt_sr, CRt_sn]; exact hCRt)
        · (simp (disch := simp [nf, nk]) only [CRo_wi, CRo_wj, CRo_si, CRo_sj, CRo_sr, CRo_sn]; exact hCRo)
        · ((try simp (disch := simp [nf, nk]) only [CRb_wi, CRb_wj, CRb_si, CRb_sj, CRb_sr, CRb_sn]); unfold CRb at *; simp [qi_wi, qi_wj, qj_wi, qj_wj, gi_si, gi_sj, gi_sr, gj_si, gj_sj, gj_sr, gr_si, gr_sj, gr_sr, gn_si, gn_sj, gn_sr, gi_sn, gj_sn, gr_sn, gn_sn, aL_wi, aL_wj, aB_wi, aB_wj, aD_wi, aD_wj, aR_wi, aR_wj, sT_wi, sT_wj, lastA_wj, lastA_wi, prevA_wj, prevA_wi]; grind)
        · ((try simp (disch := simp [nf, nk]) only [CRp_wi, CRp_wj, CRp_si, CRp_sj, CRp_sr, CRp_sn]); intro x hx; rw [gj_sj, if_neg (by omega)]; exact hCRp x hx)
        · (simp (disch := simp [nf, nk]) only [CRk_wi, CRk_wj, CRk_si, CRk_sj, CRk_sr, CRk_sn]; exact hCRk)
        · (simp (disch := simp [nf, nk]) only [CRd_wi, CRd_wj, CRd_si, CRd_sj, CRd_sr, CRd_sn]; exact hCRd)
        · (simp (disch := simp [nf, nk]) only [CRs_wi, CRs_wj, CRs_si, CRs_sj, CRs_sr, CRs_sn]; exact hCRs)
        · (simp (disch := simp [nf, nk]) only [CRr_wi, CRr_wj, CRr_si, CRr_sj, CRr_sr, CRr_sn]; exact hCRr)
        · (simp (disch := simp [nf, nk]) only [OkC_wi, OkC_wj]; exact hOkC)
        · (simp (disch := simp [nf, nk]) only [OkL_wi, OkL_wj]; exact hOkL)
        · (simp (disch := simp [nf, nk]) only [OkT_wi, OkT_wj]; exact hOkT)
        · (simp (disch := simp [nf, nk]) only [OkN_wi, OkN_wj]; exact hOkN)
        · ((try simp (disch := simp [nf, nk]) only [OkB_wi, OkB_wj]); unfold OkB at *; simp [qi_wi, qi_wj, qj_wi, qj_wj, gi_si, gi_sj, gi_sr, gj_si, gj_sj, gj_sr, gr_si, gr_sj, gr_sr, gn_si, gn_sj, gn_sr, gi_sn, gj_sn, gr_sn, gn_sn, aL_wi, aL_wj, aB_wi, aB_wj, aD_wi, aD_wj, aR_wi, aR_wj, sT_wi, sT_wj, lastA_wj, lastA_wi, prevA_wj, prevA_wi, heldZ_wj]; grind)
        · (simp (disch := simp [nf, nk]) only [OkP_wi, OkP_wj]; exact hOkP)
        · (simp (disch := simp [nf, nk]) only [OkD_wi, OkD_wj]; exact hOkD)
        · ((try simp (disch := simp [nf, nk]) only [OkZ_wi, OkZ_wj]); unfold OkZ at *; simp [qi_wi, qi_wj, qj_wi, qj_wj, gi_si, gi_sj, gi_sr, gj_si, gj_sj, gj_sr, gr_si, gr_sj, gr_sr, gn_si, gn_sj, gn_sr, gi_sn, gj_sn, gr_sn, gn_sn, aL_wi, aL_wj, aB_wi, aB_wj, aD_wi, aD_wj, aR_wi, aR_wj, sT_wi, sT_wj, lastA_wj, lastA_wi, prevA_wj, prevA_wi]; grind)
        · (simp (disch := simp [nf, nk]) only [OkR_wi, OkR_wj]; exact hOkR)
    · have hw2 : w < 0 ∨ (5000 : Int64) < w := by
        rcases Int64.lt_or_le w 0 with c | c
        · exact Or.inl c
        · exact Or.inr (Int64.not_le.mp (fun q => hw ⟨c, q⟩))
      refine Both.ro hI 0 (fun post hp => ?_) (fun post hp => ?_)
      · refine c_buyerAtI h hk.1 hb ?_
        refine ⟨fun c => (by cases c), fun j e => ?_⟩
        cases e
        exact c_isWithin (fun c1 c2 => absurd ⟨c1, c2⟩ hw) (fun _ => ⟨fun c => absurd rfl c, fun _ => hp⟩)
      · refine r_isBuyerI hk.1 hb ?_
        exact ⟨fun c => absurd c (by decide), fun _ => ⟨fun _ => hp, fun c => ⟨fun c2 => absurd ⟨Int64.not_lt.mp c, c2⟩ hw, fun _ => hp⟩⟩⟩
  · refine Both.ro hI 0 (fun post hp => ?_) (fun post hp => ?_)
    · refine c_buyerAtN h hk.1 hn ?_
      exact ⟨fun _ => hp, fun j e => (by cases e)⟩
    · refine r_isBuyerN hk.1 hn ?_
      exact ⟨fun _ => hp, fun c => absurd rfl c⟩
