theorem j_div {x y : Int64} (h0 : 0 ≤ x.toInt) (h1 : 0 < y.toInt) : (x / y).toInt = x.toInt / y.toInt := by
  have hx := x.toInt_lt
  have a1 : 0 ≤ x.toInt / y.toInt := Int.ediv_nonneg h0 (by omega)
  have a2 : x.toInt / y.toInt ≤ x.toInt := Int.ediv_le_self _ h0
  rw [Int64.toInt_div, Int.tdiv_eq_ediv_of_nonneg h0, Int.bmod_eq_of_le (by omega) (by omega)]
theorem key_again {S : St} {a : RS} {ob i : Nat} {R : Int64} (h : CR S a ob) (hk : Ok a) (hi : i < aL a) (hs : sT a i = 4) (h25 : qi a 25 i = 0) (r0 : 0 ≤ R.toInt) (r1 : R.toInt ≤ 1000000000) : CR (sr (sj (si S 5 i 10 1) 5 i 3 R) 5 i 4 (some 0)) (wj (wi (wi a 25 i 1) 20 i 0) 19 i R) ob ∧ Ok (wj (wi (wi a 25 i 1) 20 i 0) 19 i R) := by
  have ez : (0 : Int32).toNatClampNeg = 0 := rfl
  obtain ⟨hCRc, hCRl, hCRt, hCRo, hCRb, hCRp, hCRk, hCRd, hCRs, hCRr⟩ := h
  obtain ⟨hOkC, hOkL, hOkT, hOkN, hOkB, hOkP, hOkD, hOkZ, hOkR⟩ := hk
  refine ⟨⟨?_, ?_, ?_, ?_, ?_, ?_, ?_, ?_, ?_, ?_⟩, ?_, ?_, ?_, ?_, ?_, ?_, ?_, ?_, ?_⟩
  · (simp (disch := simp [nf, nk]) only [CRc_wi, CRc_wj, CRc_si, CRc_sj, CRc_sr, CRc_sn]; exact hCRc)
  · (try simp (disch := simp [nf, nk]) only [CRl_wi, CRl_wj, CRl_si, CRl_sj, CRl_sr, CRl_sn])
    intro x hx
    by_cases q : x = i
    · subst q; have := hCRl x hx; simp [qi_wi, qi_wj, qj_wi, qj_wj, gi_si, gi_sj, gi_sr, gj_si, gj_sj, gj_sr, gr_si, gr_sj, gr_sr, gn_si, gn_sj, gn_sr, gi_sn, gj_sn, gr_sn, gn_sn, aL_wi, aL_wj, aB_wi, aB_wj, aD_wi, aD_wj, aR_wi, aR_wj, sT_wi, sT_wj, lastA_wj, lastA_wi, prevA_wj, prevA_wi, ez]; exact ⟨this.1, this.2.1, this.2.2.1, this.2.2.2.1, this.2.2.2.2.2.2.1, this.2.2.2.2.2.2.2.1, this.2.2.2.2.2.2.2.2.2⟩
    · simp [qi_wi, qi_wj, qj_wi, qj_wj, gi_si, gi_sj, gi_sr, gj_si, gj_sj, gj_sr, gr_si, gr_sj, gr_sr, gn_si, gn_sj, gn_sr, gi_sn, gj_sn, gr_sn, gn_sn, aL_wi, aL_wj, aB_wi, aB_wj, aD_wi, aD_wj, aR_wi, aR_wj, sT_wi, sT_wj, lastA_wj, lastA_wi, prevA_wj, prevA_wi, q]; exact hCRl x hx
  · (try simp (disch := simp [nf, nk]) only [CRt_wi, CRt_wj, CRt_si, CRt_sj, CRt_sr, CRt_sn])
    intro x hx
    by_cases q : x = i
    · subst q; simp [qi_wi, qi_wj, qj_wi, qj_wj, gi_si, gi_sj, gi_sr, gj_si, gj_sj, gj_sr, gr_si, gr_sj, gr_sr, gn_si, gn_sj, gn_sr, gi_sn, gj_sn, gr_sn, gn_sn, aL_wi, aL_wj, aB_wi, aB_wj, aD_wi, aD_wj, aR_wi, aR_wj, sT_wi, sT_wj, lastA_wj, lastA_wi, prevA_wj, prevA_wi, ez]
    · simp [qi_wi, qi_wj, qj_wi, qj_wj, gi_si, gi_sj, gi_sr, gj_si, gj_sj, gj_sr, gr_si, gr_sj, gr_sr, gn_si, gn_sj, gn_sr, gi_sn, gj_sn, gr_sn, gn_sn, aL_wi, aL_wj, aB_wi, aB_wj, aD_wi, aD_wj, aR_wi, aR_wj, sT_wi, sT_wj, lastA_wj, lastA_wi, prevA_wj, prevA_wi, q]; exact hCRt x hx
  · (try simp (disch := simp [nf, nk]) only [CRo_wi, CRo_wj, CRo_si, CRo_sj, CRo_sr, CRo_sn])
    intro x hx
    by_cases q : x = i
    · subst q; simp [qi_wi, qi_wj, qj_wi, qj_wj, gi_si, gi_sj, gi_sr, gj_si, gj_sj, gj_sr, gr_si, gr_sj, gr_sr, gn_si, gn_sj, gn_sr, gi_sn, gj_sn, gr_sn, gn_sn, aL_wi, aL_wj, aB_wi, aB_wj, aD_wi, aD_wj, aR_wi, aR_wj, sT_wi, sT_wj, lastA_wj, lastA_wi, prevA_wj, prevA_wi, ez]
    · simp [qi_wi, qi_wj, qj_wi, qj_wj, gi_si, gi_sj, gi_sr, gj_si, gj_sj, gj_sr, gr_si, gr_sj, gr_sr, gn_si, gn_sj, gn_sr, gi_sn, gj_sn, gr_sn, gn_sn, aL_wi, aL_wj, aB_wi, aB_wj, aD_wi, aD_wj, aR_wi, aR_wj, sT_wi, sT_wj, lastA_wj, lastA_wi, prevA_wj, prevA_wi, q]; exact hCRo x hx
  · (simp (disch := simp [nf, nk]) only [CRb_wi, CRb_wj, CRb_si, CRb_sj, CRb_sr, CRb_sn]; exact hCRb)
  · (simp (disch := simp [nf, nk]) only [CRp_wi, CRp_wj, CRp_si, CRp_sj, CRp_sr, CRp_sn]; exact hCRp)
  · (simp (disch := simp [nf, nk]) only [CRk_wi, CRk_wj, CRk_si, CRk_sj, CRk_sr, CRk_sn]; exact hCRk)
  · (simp (disch := simp [nf, nk]) only [CRd_wi, CRd_wj, CRd_si, CRd_sj, CRd_sr, CRd_sn]; exact hCRd)
  · (simp (disch := simp [nf, nk]) only [CRs_wi, CRs_wj, CRs_si, CRs_sj, CRs_sr, CRs_sn]; exact hCRs)
  · (simp (disch := simp [nf, nk]) only [CRr_wi, CRr_wj, CRr_si, CRr_sj, CRr_sr, CRr_sn]; exact hCRr)
  · (try simp (disch := simp [nf, nk]) only [OkC_wi, OkC_wj])
    obtain ⟨c1, c2, c3, c4, c5, c6, c7, c8⟩ := hOkC
    have e := capS_d (a := a) (a2 := (wj (wi (wi a 25 i 1) 20 i 0) 19 i R)) (i := i) (n := aL a) (fun j _ hj => capA_c (by simp [qi_wi, qi_wj, qj_wi, qj_wj, gi_si, gi_sj, gi_sr, gj_si, gj_sj, gj_sr, gr_si, gr_sj, gr_sr, gn_si, gn_sj, gn_sr, gi_sn, gj_sn, gr_sn, gn_sn, aL_wi, aL_wj, aB_wi, aB_wj, aD_wi, aD_wj, aR_wi, aR_wj, sT_wi, sT_wj, lastA_wj, lastA_wi, prevA_wj, prevA_wi, hj]) (by simp [qi_wi, qi_wj, qj_wi, qj_wj, gi_si, gi_sj, gi_sr, gj_si, gj_sj, gj_sr, gr_si, gr_sj, gr_sr, gn_si, gn_sj, gn_sr, gi_sn, gj_sn, gr_sn, gn_sn, aL_wi, aL_wj, aB_wi, aB_wj, aD_wi, aD_wj, aR_wi, aR_wj, sT_wi, sT_wj, lastA_wj, lastA_wi, prevA_wj, prevA_wi, capS_wj, capS_wi]) (by simp [qi_wi, qi_wj, qj_wi, qj_wj, gi_si, gi_sj, gi_sr, gj_si, gj_sj, gj_sr, gr_si, gr_sj, gr_sr, gn_si, gn_sj, gn_sr, gi_sn, gj_sn, gr_sn, gn_sn, aL_wi, aL_wj, aB_wi, aB_wj, aD_wi, aD_wj, aR_wi, aR_wj, sT_wi, sT_wj, lastA_wj, lastA_wi, prevA_wj, prevA_wi, hj])) hi
    rw [capS_wj] at e
    have e5 : capA (wj (wi (wi a 25 i 1) 20 i 0) 19 i R) i = 2 := (by unfold capA; simp [qi_wi, qi_wj, qj_wi, qj_wj, gi_si, gi_sj, gi_sr, gj_si, gj_sj, gj_sr, gr_si, gr_sj, gr_sr, gn_si, gn_sj, gn_sr, gi_sn, gj_sn, gr_sn, gn_sn, aL_wi, aL_wj, aB_wi, aB_wj, aD_wi, aD_wj, aR_wi, aR_wj, sT_wi, sT_wj, lastA_wj, lastA_wi, prevA_wj, prevA_wi, ez])
    have e6 : capA a i = 1 := (by unfold capA; simp [hs, h25])
    exact ⟨by simpa [qi_wi, qi_wj, qj_wi, qj_wj, gi_si, gi_sj, gi_sr, gj_si, gj_sj, gj_sr, gr_si, gr_sj, gr_sr, gn_si, gn_sj, gn_sr, gi_sn, gj_sn, gr_sn, gn_sn, aL_wi, aL_wj, aB_wi, aB_wj, aD_wi, aD_wj, aR_wi, aR_wj, sT_wi, sT_wj, lastA_wj, lastA_wi, prevA_wj, prevA_wi, capS_wj, capS_wi] using c1, by simpa [qi_wi, qi_wj, qj_wi, qj_wj, gi_si, gi_sj, gi_sr, gj_si, gj_sj, gj_sr, gr_si, gr_sj, gr_sr, gn_si, gn_sj, gn_sr, gi_sn, gj_sn, gr_sn, gn_sn, aL_wi, aL_wj, aB_wi, aB_wj, aD_wi, aD_wj, aR_wi, aR_wj, sT_wi, sT_wj, lastA_wj, lastA_wi, prevA_wj, prevA_wi, capS_wj, capS_wi] using c2, by simpa [qi_wi, qi_wj, qj_wi, qj_wj, gi_si, gi_sj, gi_sr, gj_si, gj_sj, gj_sr, gr_si, gr_sj, gr_sr, gn_si, gn_sj, gn_sr, gi_sn, gj_sn, gr_sn, gn_sn, aL_wi, aL_wj, aB_wi, aB_wj, aD_wi, aD_wj, aR_wi, aR_wj, sT_wi, sT_wj, lastA_wj, lastA_wi, prevA_wj, prevA_wi, capS_wj, capS_wi] using c3, by simpa [qi_wi, qi_wj, qj_wi, qj_wj, gi_si, gi_sj, gi_sr, gj_si, gj_sj, gj_sr, gr_si, gr_sj, gr_sr, gn_si, gn_sj, gn_sr, gi_sn, gj_sn, gr_sn, gn_sn, aL_wi, aL_wj, aB_wi, aB_wj, aD_wi, aD_wj, aR_wi, aR_wj, sT_wi, sT_wj, lastA_wj, lastA_wi, prevA_wj, prevA_wi, capS_wj, capS_wi] using c4, by simpa [qi_wi, qi_wj, qj_wi, qj_wj, gi_si, gi_sj, gi_sr, gj_si, gj_sj, gj_sr, gr_si, gr_sj, gr_sr, gn_si, gn_sj, gn_sr, gi_sn, gj_sn, gr_sn, gn_sn, aL_wi, aL_wj, aB_wi, aB_wj, aD_wi, aD_wj, aR_wi, aR_wj, sT_wi, sT_wj, lastA_wj, lastA_wi, prevA_wj, prevA_wi, capS_wj, capS_wi] using c5, by simpa [qi_wi, qi_wj, qj_wi, qj_wj, gi_si, gi_sj, gi_sr, gj_si, gj_sj, gj_sr, gr_si, gr_sj, gr_sr, gn_si, gn_sj, gn_sr, gi_sn, gj_sn, gr_sn, gn_sn, aL_wi, aL_wj, aB_wi, aB_wj, aD_wi, aD_wj, aR_wi, aR_wj, sT_wi, sT_wj, lastA_wj, lastA_wi, prevA_wj, prevA_wi, capS_wj, capS_wi] using c6, by simpa [qi_wi, qi_wj, qj_wi, qj_wj, gi_si, gi_sj, gi_sr, gj_si, gj_sj, gj_sr, gr_si, gr_sj, gr_sr, gn_si, gn_sj, gn_sr, gi_sn, gj_sn, gr_sn, gn_sn, aL_wi, aL_wj, aB_wi, aB_wj, aD_wi, aD_wj, aR_wi, aR_wj, sT_wi, sT_wj, lastA_wj, lastA_wi, prevA_wj, prevA_wi, capS_wj, capS_wi] using c7, by simp only [aR_wj, aR_wi, aL_wj, aL_wi]; simp; omega⟩
  · (try simp (disch := simp [nf, nk]) only [OkL_wi, OkL_wj])
    intro x hx
    by_cases q : x = i
    · subst q; have := hOkL x hx; simp [qi_wi, qi_wj, qj_wi, qj_wj, gi_si, gi_sj, gi_sr, gj_si, gj_sj, gj_sr, gr_si, gr_sj, gr_sr, gn_si, gn_sj, gn_sr, gi_sn, gj_sn, gr_sn, gn_sn, aL_wi, aL_wj, aB_wi, aB_wj, aD_wi, aD_wj, aR_wi, aR_wj, sT_wi, sT_wj, lastA_wj, lastA_wi, prevA_wj, prevA_wi, ez]; exact ⟨rfl, this.2.2.1, this.2.2.2.1, this.2.2.2.2.2.1, this.2.2.2.2.2.2.1, r0, r1⟩
    · simp [qi_wi, qi_wj, qj_wi, qj_wj, gi_si, gi_sj, gi_sr, gj_si, gj_sj, gj_sr, gr_si, gr_sj, gr_sr, gn_si, gn_sj, gn_sr, gi_sn, gj_sn, gr_sn, gn_sn, aL_wi, aL_wj, aB_wi, aB_wj, aD_wi, aD_wj, aR_wi, aR_wj, sT_wi, sT_wj, lastA_wj, lastA_wi, prevA_wj, prevA_wi, q]; exact hOkL x hx
  · (try simp (disch := simp [nf, nk]) only [OkT_wi, OkT_wj])
    intro x hx
    by_cases q : x = i
    · subst q; have := (hOkT x hx).2; simp [qi_wi, qi_wj, qj_wi, qj_wj, gi_si, gi_sj, gi_sr, gj_si, gj_sj, gj_sr, gr_si, gr_sj, gr_sr, gn_si, gn_sj, gn_sr, gi_sn, gj_sn, gr_sn, gn_sn, aL_wi, aL_wj, aB_wi, aB_wj, aD_wi, aD_wj, aR_wi, aR_wj, sT_wi, sT_wj, lastA_wj, lastA_wi, prevA_wj, prevA_wi, ez]; intro z; have := (this z).1; omega
    · simp [qi_wi, qi_wj, qj_wi, qj_wj, gi_si, gi_sj, gi_sr, gj_si, gj_sj, gj_sr, gr_si, gr_sj, gr_sr, gn_si, gn_sj, gn_sr, gi_sn, gj_sn, gr_sn, gn_sn, aL_wi, aL_wj, aB_wi, aB_wj, aD_wi, aD_wj, aR_wi, aR_wj, sT_wi, sT_wj, lastA_wj, lastA_wi, prevA_wj, prevA_wi, q]; exact hOkT x hx
  · (try simp (disch := simp [nf, nk]) only [OkN_wi, OkN_wj])
    refine ⟨hOkN.1, hOkN.2.1, hOkN.2.2.imp id ?_⟩
    rintro ⟨x, hx, q1, q2, q3⟩
    have ne : x ≠ i := fun z => by subst z; omega
    exact ⟨x, hx, q1, by simp [qi_wi, qi_wj, qj_wi, qj_wj, gi_si, gi_sj, gi_sr, gj_si, gj_sj, gj_sr, gr_si, gr_sj, gr_sr, gn_si, gn_sj, gn_sr, gi_sn, gj_sn, gr_sn, gn_sn, aL_wi, aL_wj, aB_wi, aB_wj, aD_wi, aD_wj, aR_wi, aR_wj, sT_wi, sT_wj, lastA_wj, lastA_wi, prevA_wj, prevA_wi, ne]; exact q2, q3⟩
  · (try simp (disch := simp [nf, nk]) only [OkB_wi, OkB_wj])
    intro b hb
    have e := heldZ_d (a := a) (a2 := wi a 20 i 0) (b := b) (i := i) (n := aL a) (fun j _ hj => hvZ_c (by simp [qi_wi, qi_wj, qj_wi, qj_wj, gi_si, gi_sj, gi_sr, gj_si, gj_sj, gj_sr, gr_si, gr_sj, gr_sr, gn_si, gn_sj, gn_sr, gi_sn, gj_sn, gr_sn, gn_sn, aL_wi, aL_wj, aB_wi, aB_wj, aD_wi, aD_wj, aR_wi, aR_wj, sT_wi, sT_wj, lastA_wj, lastA_wi, prevA_wj, prevA_wi, hj]) (by simp [qi_wi, qi_wj, qj_wi, qj_wj, gi_si, gi_sj, gi_sr, gj_si, gj_sj, gj_sr, gr_si, gr_sj, gr_sr, gn_si, gn_sj, gn_sr, gi_sn, gj_sn, gr_sn, gn_sn, aL_wi, aL_wj, aB_wi, aB_wj, aD_wi, aD_wj, aR_wi, aR_wj, sT_wi, sT_wj, lastA_wj, lastA_wi, prevA_wj, prevA_wi, heldZ_wj, heldZ_wi]) (by simp [qi_wi, qi_wj, qj_wi, qj_wj, gi_si, gi_sj, gi_sr, gj_si, gj_sj, gj_sr, gr_si, gr_sj, gr_sr, gn_si, gn_sj, gn_sr, gi_sn, gj_sn, gr_sn, gn_sn, aL_wi, aL_wj, aB_wi, aB_wj, aD_wi, aD_wj, aR_wi, aR_wj, sT_wi, sT_wj, lastA_wj, lastA_wi, prevA_wj, prevA_wi, heldZ_wj, heldZ_wi])) hi
    have e5 : hvZ (wi a 20 i 0) b i = 0 := (by unfold hvZ; simp [qi_wi, qi_wj, qj_wi, qj_wj, gi_si, gi_sj, gi_sr, gj_si, gj_sj, gj_sr, gr_si, gr_sj, gr_sr, gn_si, gn_sj, gn_sr, gi_sn, gj_sn, gr_sn, gn_sn, aL_wi, aL_wj, aB_wi, aB_wj, aD_wi, aD_wj, aR_wi, aR_wj, sT_wi, sT_wj, lastA_wj, lastA_wi, prevA_wj, prevA_wi, ez])
    have := hvZ_pos (b := b) hOkT hi
    have z := hOkB b hb
    have ee : heldZ (wi (wi a 25 i 1) 20 i 0) b (aL a) = heldZ (wi a 20 i 0) b (aL a) := heldZ_c (fun j _ => hvZ_c rfl rfl rfl)
    refine ⟨z.1, z.2.1, z.2.2.1, z.2.2.2.1, ?_⟩
    show heldZ (wi (wi a 25 i 1) 20 i 0) b (aL a) ≤ (qj a 28 b).toInt
    omega
  · (simp (disch := simp [nf, nk]) only [OkP_wi, OkP_wj]; exact hOkP)
  · (simp (disch := simp [nf, nk]) only [OkD_wi, OkD_wj]; exact hOkD)
  · (try simp (disch := simp [nf, nk]) only [OkZ_wi, OkZ_wj])
    refine ⟨fun x hx => ?_, by simpa [qi_wi, qi_wj, qj_wi, qj_wj, gi_si, gi_sj, gi_sr, gj_si, gj_sj, gj_sr, gr_si, gr_sj, gr_sr, gn_si, gn_sj, gn_sr, gi_sn, gj_sn, gr_sn, gn_sn, aL_wi, aL_wj, aB_wi, aB_wj, aD_wi, aD_wj, aR_wi, aR_wj, sT_wi, sT_wj, lastA_wj, lastA_wi, prevA_wj, prevA_wi] using hOkZ.2.1, fun x hx => ?_⟩
    · have hx : aL a ≤ x := hx
      have := hOkZ.1 x hx
      have ne : x ≠ i := (by omega)
      simp [qi_wi, qi_wj, qj_wi, qj_wj, gi_si, gi_sj, gi_sr, gj_si, gj_sj, gj_sr, gr_si, gr_sj, gr_sr, gn_si, gn_sj, gn_sr, gi_sn, gj_sn, gr_sn, gn_sn, aL_wi, aL_wj, aB_wi, aB_wj, aD_wi, aD_wj, aR_wi, aR_wj, sT_wi, sT_wj, lastA_wj, lastA_wi, prevA_wj, prevA_wi, ne]; exact this
    · by_cases q : x = i
      · subst q; simp [qi_wi, qi_wj, qj_wi, qj_wj, gi_si, gi_sj, gi_sr, gj_si, gj_sj, gj_sr, gr_si, gr_sj, gr_sr, gn_si, gn_sj, gn_sr, gi_sn, gj_sn, gr_sn, gn_sn, aL_wi, aL_wj, aB_wi, aB_wj, aD_wi, aD_wj, aR_wi, aR_wj, sT_wi, sT_wj, lastA_wj, lastA_wi, prevA_wj, prevA_wi, ez]
      · simp [qi_wi, qi_wj, qj_wi, qj_wj, gi_si, gi_sj, gi_sr, gj_si, gj_sj, gj_sr, gr_si, gr_sj, gr_sr, gn_si, gn_sj, gn_sr, gi_sn, gj_sn, gr_sn, gn_sn, aL_wi, aL_wj, aB_wi, aB_wj, aD_wi, aD_wj, aR_wi, aR_wj, sT_wi, sT_wj, lastA_wj, lastA_wi, prevA_wj, prevA_wi, q]; exact hOkZ.2.2 x hx
  · (simp (disch := simp [nf, nk]) only [OkR_wi, OkR_wj]; exact hOkR)
theorem cap_again {a : RS} {i : Nat} {R : Int64} (hk : Ok a) (hi : i < aL a) (hs : sT a i = 4) (h25 : qi a 25 i = 0) : aR a < capS (wj (wi (wi a 25 i 1) 20 i 0) 19 i R) (aL a) := by
  have ez : (0 : Int32).toNatClampNeg = 0 := rfl
  have e := capS_d (a := a) (a2 := (wj (wi (wi a 25 i 1) 20 i 0) 19 i R)) (i := i) (n := aL a) (fun j _ hj => capA_c (if_neg (fun q => hj q.2)) rfl (if_neg (fun q => hj q.2))) hi
  have e5 : capA (wj (wi (wi a 25 i 1) 20 i 0) 19 i R) i = 2 := by
    have s0 : sT (wj (wi (wi a 25 i 1) 20 i 0) 19 i R) i = 0 := by rw [sT_wj, sT_wi, if_pos ⟨rfl, rfl⟩]; rfl
    have s1 : qi (wj (wi (wi a 25 i 1) 20 i 0) 19 i R) 25 i = 1 := by rw [qi_wj, qi_wi_ne (by decide), qi_wi, if_pos ⟨rfl, rfl⟩]
    unfold capA
    rw [s0, s1]; rfl
  have e6 : capA a i = 1 := by
    unfold capA
    rw [hs, h25]; rfl
  have := hk.1.2.2.2.2.2.2.2
  omega
theorem b_again {S : St} (hI : Inv S) (p : Int32) : Both (wp_X8_again p) (wp_X9_again p) S := by
  obtain ⟨ob, h, hk⟩ := id hI
  have hL := hk.1.2.1
  rcases ix_or p (aL (pr S)) (by omega) with ⟨i, hi, rfl⟩ | hn
  · have ini : vp_in (nI i) 60 := vp_in_nI (by omega) (by omega)
    obtain ⟨-, -, -, -, es, est, -, -, e10, -⟩ := h.2.1 i hi
    have e4 := st_eq (k := 4) hk.2.1 hi (by omega)
    have g20 : gi S 20 0 i = qi (pr S) 20 i := gi_pr rfl
    have g25 : gi S 25 0 i = qi (pr S) 25 i := gi_pr rfl
    have g19 : gj S 19 0 i = qj (pr S) 19 i := gj_pr rfl
    by_cases hs : sT (pr S) i = 4 ∧ qi (pr S) 25 i = 0
    · obtain ⟨hs, h25⟩ := hs
      have okl := hk.2.1 i hi
      have rd : (qj (pr S) 19 i / (10 : Int64)).toInt = (qj (pr S) 19 i).toInt / 10 := j_div okl.2.2.2.2.2.2.2.1 (by decide)
      have rv : (qj (pr S) 19 i - qj (pr S) 19 i / (10 : Int64)).toInt = (qj (pr S) 19 i).toInt - (qj (pr S) 19 i).toInt / 10 := by
        rw [← rd]; exact j_sub (by omega) (by omega)
      have r0 : 0 ≤ (qj (pr S) 19 i - qj (pr S) 19 i / (10 : Int64)).toInt := by omega
      have r1 : (qj (pr S) 19 i - qj (pr S) 19 i / (10 : Int64)).toInt ≤ 1000000000 := by omega
      generalize hR : qj (pr S) 19 i - qj (pr S) 19 i / (10 : Int64) = R at r0 r1
      have key := key_again h hk hi hs h25 r0 r1
      have hcap := cap_again (R := R) hk hi hs h25
      have hcl := capS_le (pr S) (aL (pr S))
      have hcr := hk.1.2.2.2.2.2.2.2
      have h30 : qi (pr S) 8 30 = nI (aR (pr S)) := hk.1.2.2.2.2.2.2.1
      have hR2 : aR (pr S) < 240 := by
        have := capS_le (wj (wi (wi (pr S) 25 i 1) 20 i 0) 19 i R) (aL (pr S)); omega
      have d1 : gi (sr (sj (si S 5 i 10 1) 5 i 3 R) 5 i 4 (some 0)) 2 0 1 = nI (aR (pr S)) := h.2.2.2.2.2.2.2.2.2.1.trans h30
      have d3 : gn (sr (sj (si S 5 i 10 1) 5 i 3 R) 5 i 4 (some 0)) 3 = aR (pr S) := h.1.2.2.2.2.2.1
      have hT : pr (sr (sj (si S 5 i 10 1) 5 i 3 R) 5 i 4 (some 0)) = pr S := by rw [pr_sr, pr_sjC rfl, pr_siC rfl]
      refine ⟨1, (cAdd (sr (sj (si S 5 i 10 1) 5 i 3 R) 5 i 4 (some 0)) (aR (pr S)) 6 (nI i) (-1) R), (rNote (sj (si (si (cAdd (sr (sj (si S 5 i 10 1) 5 i 3 R) 5 i 4 (some 0)) (aR (pr S)) 6 (nI i) (-1) R) 25 0 i 1) 20 0 i 0) 19 0 i R) (aR (pr S)) 6 (nI i) (-1) R), fun post hp => ?_, fun post hp => ?_, ?_⟩
      · refine c_lotAtI h hk.1 hi ⟨fun c => (by cases c), fun j e => ?_⟩
        cases e
        rw [est, hs, e10, h25]
        refine ⟨fun c => absurd rfl c, fun _ => ⟨fun _ S5 e5 S6 e6 S7 e7 => ?_, fun c => absurd rfl c⟩⟩
        have a5 : gj S5 5 i 3 = qj (pr S) 19 i := by rw [e5]; exact es
        rw [a5, hR] at e6
        have a7 : gj S7 5 i 3 = R := by rw [e7, e6, gj_sr, gj_sj]; exact if_pos ⟨rfl, rfl, rfl⟩
        rw [a7]
        subst e5; subst e6; subst e7
        exact c_add (n := aR (pr S)) d1 hR2 d3 hp
      · have hq : pr (cAdd (sr (sj (si S 5 i 10 1) 5 i 3 R) 5 i 4 (some 0)) (aR (pr S)) 6 (nI i) (-1) R) = pr S := pr_add.trans hT
        generalize (cAdd (sr (sj (si S 5 i 10 1) 5 i 3 R) 5 i 4 (some 0)) (aR (pr S)) 6 (nI i) (-1) R) = Z at hq hp ⊢
        have t1 : gi Z 20 0 i = nI 4 := by rw [gi_pr rfl, hq]; exact e4.mpr hs
        have t2 : gi Z 25 0 i = 0 := by rw [gi_pr rfl, hq]; exact h25
        have t3 : gi Z 8 0 30 = nI (aR (pr S)) := by rw [gi_pr rfl, hq]; exact h30
        have t4 : gj Z 19 0 i = qj (pr S) 19 i := by rw [gj_pr rfl, hq]
        refine r_isLotI (hq ▸ hk.1) (hq ▸ hi) ⟨fun c => absurd c (by decide), fun _ => ⟨ini, ?_⟩⟩
        rw [nI_clamp (by omega), t1, t2]
        refine ⟨fun c => absurd rfl c, fun _ => ⟨ini, fun _ => ⟨ini, fun S6 e6 => ⟨ini, fun S8 e8 => ⟨ini, ini, ini, fun S12 e12 => ⟨ini, ?_⟩⟩⟩⟩, fun c => absurd rfl c⟩⟩
        have a8 : gj S8 19 0 i = qj (pr S) 19 i := by rw [e8, e6]; exact t4
        rw [a8, hR] at e12
        have a12 : gj S12 19 0 i = R := by rw [e12, gj_sj]; exact if_pos ⟨rfl, rfl, rfl⟩
        have b12 : gi S12 8 0 30 = nI (aR (pr S)) := by rw [e12, e8, e6]; exact t3
        rw [a12]
        refine r_note b12 (by omega) ?_
        rw [e12, e8, e6]
        exact hp
      · refine fin_note (a := wj (wi (wi (pr S) 25 i 1) 20 i 0) 19 i R) key.1 key.2 (by rw [aR_wj, aR_wi, if_neg (fun q => absurd q.1 (by decide)), aR_wi, if_neg (fun q => absurd q.1 (by decide)), aL_wj, aL_wi, if_neg (fun q => absurd q.1 (by decide)), aL_wi, if_neg (fun q => absurd q.1 (by decide))]; exact hcap) (CS.sj (CS.si (CS.si CS.rf rfl) rfl) rfl) ?_ ?_
        · rw [pr_sj rfl, pr_si rfl, pr_si rfl, pr_add, hT]
        · rw [aR_wj, aR_wi, if_neg (fun q => absurd q.1 (by decide)), aR_wi, if_neg (fun q => absurd q.1 (by decide))]
    · refine Both.ro hI (-1) (fun post hp => ?_) (fun post hp => ?_)
      · refine c_lotAtI h hk.1 hi ⟨fun c => (by cases c), fun j e => ?_⟩
        cases e
        rw [est, e10]
        exact ⟨fun _ => hp, fun c => ⟨fun c2 => absurd ⟨Option.some.inj c, c2⟩ hs, fun _ => hp⟩⟩
      · refine r_isLotI hk.1 hi ⟨fun c => absurd c (by decide), fun _ => ⟨ini, ?_⟩⟩
        rw [nI_clamp (by omega), g20, g25]
        exact ⟨fun _ => hp, fun c => ⟨ini, fun c2 => absurd ⟨e4.mp c, c2⟩ hs, fun _ => hp⟩⟩
  · refine Both.ro hI (-1) (fun post hp => ?_) (fun post hp => ?_)
    · refine c_lotAtN h hk.1 hn ?_
      exact ⟨fun _ => hp, fun j e => (by cases e)⟩
    · refine r_isLotN hk.1 hn ?_
      exact ⟨fun _ => hp, fun c => absurd rfl c⟩
