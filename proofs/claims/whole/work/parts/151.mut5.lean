theorem c_isFor {S : St} {j i : Nat} (hi : i < 60) {post : Int32 → St → Prop} (h1 : bl (gj S 0 j 3) i = true → post 1 S) (h0 : ¬ bl (gj S 0 j 3) i = true → post 0 S) : wp_X0_isFor j (nI i) S post := by
  unfold wp_X0_isFor
  rw [lbit_u (by omega)]
  refine ⟨fun c => absurd c (nI_pos (by omega)), fun _ => ⟨fun c => absurd c (nI_ge (b := 60) (by omega) (by omega)), fun _ => ⟨fun c => ?_, fun c => ?_⟩⟩⟩
  · exact h0 (fun z => absurd c (by rw [if_pos z]; decide))
  · exact h1 (Classical.byContradiction (fun z => c (by rw [if_neg z])))
theorem b_on {S : St} (hI : Inv S) (p q : Int32) : Both (wp_X8_on p q) (wp_X9_on p q) S := by
  obtain ⟨ob, h, hk⟩ := id hI
  have hL := hk.1.2.1
  have hD := hk.1.2.2.2.2.2.1
  have g23 : gi S 8 0 23 = nI (aD (pr S)) := (gi_pr rfl).trans hk.1.2.2.2.2.1
  have lotNN : ∀ post : Int32 → St → Prop, post 0 S → wp_X8_lotAt q S (fun r5 S4 => (r5 = none → post (0 : Int32) S4) ∧ (∀ j6 : Nat, r5 = some j6 → post (0 : Int32) S4)) := by
    intro post hp
    rcases ix_or q (aL (pr S)) (by omega) with ⟨i, hi, rfl⟩ | hn
    · refine c_lotAtI h hk.1 hi ?_
      exact ⟨fun c => (by cases c), fun j e => hp⟩
    · refine c_lotAtN h hk.1 hn ?_
      exact ⟨fun _ => hp, fun j e => (by cases e)⟩
  rcases ix_or p (aD (pr S)) (by omega) with ⟨k, hkk, rfl⟩ | hn
  · have ink : vp_in (nI k) 18 := vp_in_nI (by omega) (by omega)
    have e33 : gj S 0 (ob + k) 3 = gj S 33 0 k := (h.2.2.2.2.2.2.2.1 k hkk).2.2.2.2
    rcases ix_or q (aL (pr S)) (by omega) with ⟨i, hi, rfl⟩ | hm
    · have ini : vp_in (nI i) 60 := vp_in_nI (by omega) (by omega)
      have est : gr S 5 i 4 = some (sT (pr S) i) := (h.2.1 i hi).2.2.2.2.2.1
      have e0 := st_eq (k := 0) hk.2.1 hi (by omega)
      have g20 : gi S 20 0 i = qi (pr S) 20 i := gi_pr rfl
      by_cases hb : bl (gj S 33 0 k) i = true
      · refine Both.ro hI 0 (fun post hp => ?_) (fun post hp => ?_)
        · refine c_bidAtI h hk.1 hkk ?_
          refine ⟨fun c => (by cases c), fun j e => ?_⟩
          cases e
          refine c_lotAtI h hk.1 hi ?_
          refine ⟨fun c => (by cases c), fun j e => ?_⟩
          cases e
          exact c_isFor (by omega) (fun _ => ⟨fun _ => hp, fun c => absurd c (by decide)⟩) (fun z => absurd (e33 ▸ hb) z)
        · refine ⟨fun c => absurd c (nI_pos (by omega)), fun _ => ?_⟩
          rw [g23]
          refine ⟨fun c => absurd c (nI_ge hkk (by omega)), fun _ => r_isLotI hk.1 hi ?_⟩
          refine ⟨fun c => absurd c (by decide), fun _ => ⟨ink, ?_⟩⟩
          rw [nI_clamp (by omega), lbit_s (by omega), if_pos hb]
          exact ⟨fun _ => hp, fun c => absurd rfl c⟩
      · by_cases hs : sT (pr S) i = 0
        · refine ⟨1, sj S 0 (ob + k) 3 (gj S 33 0 k ||| ((1 : Int64) <<< ((nI i).toInt64 &&& 63))), sj (sj S 0 (ob + k) 3 (gj S 33 0 k ||| ((1 : Int64) <<< ((nI i).toInt64 &&& 63)))) 33 0 k (gj S 33 0 k ||| ((1 : Int64) <<< ((nI i).toInt64 &&& 63))), fun post hp => ?_, fun post hp => ?_, ?_⟩
          · refine c_bidAtI h hk.1 hkk ?_
            refine ⟨fun c => (by cases c), fun j e => ?_⟩
            cases e
            refine c_lotAtI h hk.1 hi ?_
            refine ⟨fun c => (by cases c), fun j e => ?_⟩
            cases e
            refine c_isFor (by omega) (fun z => absurd (e33 ▸ z) hb) (fun _ => ⟨fun c => absurd rfl c, fun _ => ?_⟩)
            rw [est, hs]
            refine ⟨fun _ => ?_, fun c => absurd rfl c⟩
            unfold wp_X0_addLot
            rw [e33]
            refine ⟨fun c => absurd c (nI_pos (by omega)), fun _ => ⟨fun c => absurd c (nI_ge (b := 60) (by omega) (by omega)), fun _ S1 e1 => ?_⟩⟩
            subst e1; exact hp
          · have hq : pr (sj S 0 (ob + k) 3 (gj S 33 0 k ||| ((1 : Int64) <<< ((nI i).toInt64 &&& 63)))) = pr S := pr_sjC rfl
            have a1 : gj (sj S 0 (ob + k) 3 (gj S 33 0 k ||| ((1 : Int64) <<< ((nI i).toInt64 &&& 63)))) 33 0 k = gj S 33 0 k := rfl
            have a2 : gi (sj S 0 (ob + k) 3 (gj S 33 0 k ||| ((1 : Int64) <<< ((nI i).toInt64 &&& 63)))) 20 0 i = nI 0 := g20.trans (e0.mpr hs)
            have a3 : gi (sj S 0 (ob + k) 3 (gj S 33 0 k ||| ((1 : Int64) <<< ((nI i).toInt64 &&& 63)))) 8 0 23 = nI (aD (pr S)) := g23
            generalize hT : sj S 0 (ob + k) 3 (gj S 33 0 k ||| ((1 : Int64) <<< ((nI i).toInt64 &&& 63))) = T at *
            refine ⟨fun c => absurd c (nI_pos (by omega)), fun _ => ?_⟩
            rw [a3]
            refine ⟨fun c => absurd c (nI_ge hkk (by omega)), fun _ => r_isLotI (hq ▸ hk.1) (hq ▸ hi) ?_⟩
            refine ⟨fun c => absurd c (by decide), fun _ => ⟨ink, ?_⟩⟩
            rw [nI_clamp (by omega), nI_clamp (by omega), lbit_s (by omega), a1, if_neg hb, a2]
            refine ⟨fun c => absurd c (by decide), fun _ => ⟨ini, fun _ => ⟨ink, ink, fun S7 e7 => ?_⟩, fun c => absurd rfl c⟩⟩
            subst e7; exact hp
          · have ee : gj S 33 0 k = qj (pr S) 33 k := gj_pr rfl
            rw [ee]
            refine ⟨ob, ?_⟩
            rw [pr_sj rfl, pr_sjC rfl]
            obtain ⟨hCRc, hCRl, hCRt, hCRo, hCRb, hCRp, hCRk, hCRd, hCRs, hCRr⟩ := h
            obtain ⟨hOkC, hOkL, hOkT, hOkN, hOkB, hOkP, hOkD, hOkZ, hOkR⟩ := hk
            generalize pr S = a at *
            refine ⟨⟨?_, ?_, ?_, ?_, ?_, ?_, ?_, ?_, ?_, ?_⟩, ?_, ?_, ?_, ?_, ?_, ?_, ?_, ?_, ?_⟩
            · (simp (disch := simp [nf, nk]) only [CRc_wi, CRc_wj, CRc_si, CRc_sj, CRc_sr, CRc_sn]; exact hCRc)
            · (simp (disch := simp [nf, nk]) only [CRl_wi, CRl_wj, CRl_si, CRl_sj, CRl_sr, CRl_sn]; exact hCRl)
            · (simp (disch := simp [nf, nk]) only [CRt_wi, CRt_wj, CRt_si, CRt_sj, CRt_sr, CRt_sn]; exact hCRt)
            · (simp (disch := simp [nf, nk]) only [CRo_wi, CRo_wj, CRo_si, CRo_sj, CRo_sr, CRo_sn]; exact hCRo)
            · (simp (disch := simp [nf, nk]) only [CRb_wi, CRb_wj, CRb_si, CRb_sj, CRb_sr, CRb_sn]; exact hCRb)
            · (simp (disch := simp [nf, nk]) only [CRp_wi, CRp_wj, CRp_si, CRp_sj, CRp_sr, CRp_sn]; exact hCRp)
            · (simp (disch := simp [nf, nk]) only [CRk_wi, CRk_wj, CRk_si, CRk_sj, CRk_sr, CRk_sn]; exact hCRk)
            · (try simp (disch := simp [nf, nk]) only [CRd_wi, CRd_wj, CRd_si, CRd_sj, CRd_sr, CRd_sn])
              intro x hx
              by_cases q : x = k
              · subst q; simp [qi_wi, qi_wj, qj_wi, qj_wj, gi_si, gi_sj, gi_sr, gj_si, gj_sj, gj_sr, gr_si, gr_sj, gr_sr, gn_si, gn_sj, gn_sr, gi_sn, gj_sn, gr_sn, gn_sn, aL_wi, aL_wj, aB_wi, aB_wj, aD_wi, aD_wj, aR_wi, aR_wj, sT_wi, sT_wj, lastA_wj, lastA_wi, prevA_wj, prevA_wi]; exact ⟨(hCRd x hx).1, (hCRd x hx).2.1, (hCRd x hx).2.2.1, (hCRd x hx).2.2.2.1⟩
              · simp [qi_wi, qi_wj, qj_wi, qj_wj, gi_si, gi_sj, gi_sr, gj_si, gj_sj, gj_sr, gr_si, gr_sj, gr_sr, gn_si, gn_sj, gn_sr, gi_sn, gj_sn, gr_sn, gn_sn, aL_wi, aL_wj, aB_wi, aB_wj, aD_wi, aD_wj, aR_wi, aR_wj, sT_wi, sT_wj, lastA_wj, lastA_wi, prevA_wj, prevA_wi, q]; exact hCRd x hx
            · (simp (disch := simp [nf, nk]) only [CRs_wi, CRs_wj, CRs_si, CRs_sj, CRs_sr, CRs_sn]; exact hCRs)
            · (simp (disch := simp [nf, nk]) only [CRr_wi, CRr_wj, CRr_si, CRr_sj, CRr_sr, CRr_sn]; exact hCRr)
            · (simp (disch := simp [nf, nk]) only [OkC_wi, OkC_wj]; exact hOkC)
            · (simp (disch := simp [nf, nk]) only [OkL_wi, OkL_wj]; exact hOkL)
            · (simp (disch := simp [nf, nk]) only [OkT_wi, OkT_wj]; exact hOkT)
            · (simp (disch := simp [nf, nk]) only [OkN_wi, OkN_wj]; exact hOkN)
            · (simp (disch := simp [nf, nk]) only [OkB_wi, OkB_wj]; exact hOkB)
            · (simp (disch := simp [nf, nk]) only [OkP_wi, OkP_wj]; exact hOkP)
            · (simp (disch := simp [nf, nk]) only [OkD_wi, OkD_wj]; exact hOkD)
            · (simp (disch := simp [nf, nk]) only [OkZ_wi, OkZ_wj]; exact hOkZ)
            · (simp (disch := simp [nf, nk]) only [OkR_wi, OkR_wj]; exact hOkR)
        · refine Both.ro hI 0 (fun post hp => ?_) (fun post hp => ?_)
          · refine c_bidAtI h hk.1 hkk ?_
            refine ⟨fun c => (by cases c), fun j e => ?_⟩
            cases e
            refine c_lotAtI h hk.1 hi ?_
            refine ⟨fun c => (by cases c), fun j e => ?_⟩
            cases e
            refine c_isFor (by omega) (fun z => absurd (e33 ▸ z) hb) (fun _ => ⟨fun c => absurd rfl c, fun _ => ?_⟩)
            rw [est]
            exact ⟨fun c => absurd (Option.some.inj c) hs, fun _ => hp⟩
          · refine ⟨fun c => absurd c (nI_pos (by omega)), fun _ => ?_⟩
            rw [g23]
            refine ⟨fun c => absurd c (nI_ge hkk (by omega)), fun _ => r_isLotI hk.1 hi ?_⟩
            refine ⟨fun c => absurd c (by decide), fun _ => ⟨ink, ?_⟩⟩
            rw [nI_clamp (by omega), nI_clamp (by omega), lbit_s (by omega), if_neg hb, g20]
            exact ⟨fun _ => hp, fun _ => ⟨ini, fun c => absurd (e0.mp c) hs, fun _ => hp⟩⟩
    · refine Both.ro hI 0 (fun post hp => ?_) (fun post hp => ?_)
      · refine c_bidAtI h hk.1 hkk ?_
        refine ⟨fun c => (by cases c), fun j e => ?_⟩
        cases e
        refine c_lotAtN h hk.1 hm ?_
        exact ⟨fun _ => hp, fun j e => (by cases e)⟩
      · refine ⟨fun _ => hp, fun _ => ⟨fun _ => hp, fun _ => r_isLotN hk.1 hm ⟨fun _ => hp, fun c => absurd rfl c⟩⟩⟩
  · refine Both.ro hI 0 (fun post hp => ?_) (fun post hp => ?_)
    · refine c_bidAtN h hk.1 hn ?_
      exact ⟨fun _ => lotNN post hp, fun j e => (by cases e)⟩
    · refine ⟨fun _ => hp, fun c => ⟨fun _ => hp, fun c2 => ?_⟩⟩
      rw [g23] at c2
      exact absurd hn (fun z => z.elim c c2)
