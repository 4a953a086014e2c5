theorem fin_note {T R : St} {a : RS} {ob n : Nat} {so lo bu : Int32} {ce : Int64} (h : CR T a ob) (hk : Ok a) (hn : aR a < capS a (aL a)) (hs : CS (cAdd T n so lo bu ce) R) (hp : pr R = a) (en : aR a = n) : Inv (rNote R n so lo bu ce) := by
  subst en
  have hcap := capS_le a (aL a)
  have h60 := hk.1.2.1
  refine ⟨ob, ?_⟩
  rw [pr_note (by rw [hp]), hp]
  exact ⟨(h.add hk.1.2.2.2.2.2.2.1 (by omega)).cs (cs_note hs), hk.note hn⟩
theorem hvZ_pos {a : RS} {b i : Nat} (h : OkT a) (hi : i < aL a) : 0 ≤ hvZ a b i := by
  unfold hvZ
  split
  · rename_i q; exact (h i hi).1 q.1.symm
  · exact Int.le_refl _
theorem key_back {S : St} {a : RS} {ob i : Nat} (h : CR S a ob) (hk : Ok a) (hi : i < aL a) (hs : sT a i = 0 ∨ sT a i = 2 ∨ sT a i = 4) : CR (sr S 5 i 4 (some 5)) (wi a 20 i 5) ob ∧ Ok (wi a 20 i 5) := by
  obtain ⟨hCRc, hCRl, hCRt, hCRo, hCRb, hCRp, hCRk, hCRd, hCRs, hCRr⟩ := h
  obtain ⟨hOkC, hOkL, hOkT, hOkN, hOkB, hOkP, hOkD, hOkZ, hOkR⟩ := hk
  refine ⟨⟨?_, ?_, ?_, ?_, ?_, ?_, ?_, ?_, ?_, ?_⟩, ?_, ?_, ?_, ?_, ?_, ?_, ?_, ?_, ?_⟩
  · (simp (disch := simp [nf, nk]) only [CRc_wi, CRc_wj, CRc_si, CRc_sj, CRc_sr, CRc_sn]; exact hCRc)
  · (try simp (disch := simp [nf, nk]) only [CRl_wi, CRl_wj, CRl_si, CRl_sj, CRl_sr, CRl_sn])
    intro x hx
    by_cases q : x = i
    · subst q; have := hCRl x hx; simp [qi_wi, qi_wj, qj_wi, qj_wj, gi_si, gi_sj, gi_sr, gj_si, gj_sj, gj_sr, gr_si, gr_sj, gr_sr, gn_si, gn_sj, gn_sr, gi_sn, gj_sn, gr_sn, gn_sn, aL_wi, aL_wj, aB_wi, aB_wj, aD_wi, aD_wj, aR_wi, aR_wj, sT_wi, sT_wj, lastA_wj, lastA_wi, prevA_wj, prevA_wi, show (5 : Int32).toNatClampNeg = 5 from rfl]; exact ⟨this.1, this.2.1, this.2.2.1, this.2.2.2.1, this.2.2.2.2.1, this.2.2.2.2.2.2⟩
    · simp [qi_wi, qi_wj, qj_wi, qj_wj, gi_si, gi_sj, gi_sr, gj_si, gj_sj, gj_sr, gr_si, gr_sj, gr_sr, gn_si, gn_sj, gn_sr, gi_sn, gj_sn, gr_sn, gn_sn, aL_wi, aL_wj, aB_wi, aB_wj, aD_wi, aD_wj, aR_wi, aR_wj, sT_wi, sT_wj, lastA_wj, lastA_wi, prevA_wj, prevA_wi, q]; exact hCRl x hx
  · (try simp (disch := simp [nf, nk]) only [CRt_wi, CRt_wj, CRt_si, CRt_sj, CRt_sr, CRt_sn])
    intro x hx
    by_cases q : x = i
    · subst q; simp [qi_wi, qi_wj, qj_wi, qj_wj, gi_si, gi_sj, gi_sr, gj_si, gj_sj, gj_sr, gr_si, gr_sj, gr_sr, gn_si, gn_sj, gn_sr, gi_sn, gj_sn, gr_sn, gn_sn, aL_wi, aL_wj, aB_wi, aB_wj, aD_wi, aD_wj, aR_wi, aR_wj, sT_wi, sT_wj, lastA_wj, lastA_wi, prevA_wj, prevA_wi, show (5 : Int32).toNatClampNeg = 5 from rfl]
    · simp [qi_wi, qi_wj, qj_wi, qj_wj, gi_si, gi_sj, gi_sr, gj_si, gj_sj, gj_sr, gr_si, gr_sj, gr_sr, gn_si, gn_sj, gn_sr, gi_sn, gj_sn, gr_sn, gn_sn, aL_wi, aL_wj, aB_wi, aB_wj, aD_wi, aD_wj, aR_wi, aR_wj, sT_wi, sT_wj, lastA_wj, lastA_wi, prevA_wj, prevA_wi, q]; exact hCRt x hx
  · (try simp (disch := simp [nf, nk]) only [CRo_wi, CRo_wj, CRo_si, CRo_sj, CRo_sr, CRo_sn])
    intro x hx
    by_cases q : x = i
    · subst q; simp [qi_wi, qi_wj, qj_wi, qj_wj, gi_si, gi_sj, gi_sr, gj_si, gj_sj, gj_sr, gr_si, gr_sj, gr_sr, gn_si, gn_sj, gn_sr, gi_sn, gj_sn, gr_sn, gn_sn, aL_wi, aL_wj, aB_wi, aB_wj, aD_wi, aD_wj, aR_wi, aR_wj, sT_wi, sT_wj, lastA_wj, lastA_wi, prevA_wj, prevA_wi, show (5 : Int32).toNatClampNeg = 5 from rfl]
    · simp [qi_wi, qi_wj, qj_wi, qj_wj, gi_si, gi_sj, gi_sr, gj_si, gj_sj, gj_sr, gr_si, gr_sj, gr_sr, gn_si, gn_sj, gn_sr, gi_sn, gj_sn, gr_sn, gn_sn, aL_wi, aL_wj, aB_wi, aB_wj, aD_wi, aD_wj, aR_wi, aR_wj, sT_wi, sT_wj, lastA_wj, lastA_wi, prevA_wj, prevA_wi, q]; exact hCRo x hx
  · (simp (disch := simp [nf, nk]) only [CRb_wi, CRb_wj, CRb_si, CRb_sj, CRb_sr, CRb_sn]; exact hCRb)
  · (simp (disch := simp [nf, nk]) only [CRp_wi, CRp_wj, CRp_si, CRp_sj, CRp_sr, CRp_sn]; exact hCRp)
  · (simp (disch := simp [nf, nk]) only [CRk_wi, CRk_wj, CRk_si, CRk_sj, CRk_sr, CRk_sn]; exact hCRk)
  · (simp (disch := simp [nf, nk]) only [CRd_wi, CRd_wj, CRd_si, CRd_sj, CRd_sr, CRd_sn]; exact hCRd)
  · (simp (disch := simp [nf, nk]) only [CRs_wi, CRs_wj, CRs_si, CRs_sj, CRs_sr, CRs_sn]; exact hCRs)
  · (simp (disch := simp [nf, nk]) only [CRr_wi, CRr_wj, CRr_si, CRr_sj, CRr_sr, CRr_sn]; exact hCRr)
  · (try simp (disch := simp [nf, nk]) only [OkC_wi, OkC_wj])
    obtain ⟨c1, c2, c3, c4, c5, c6, c7, c8⟩ := hOkC
    have e := capS_d (a := a) (a2 := wi a 20 i 5) (i := i) (n := aL a) (fun j _ hj => capA_c (by simp [qi_wi, qi_wj, qj_wi, qj_wj, gi_si, gi_sj, gi_sr, gj_si, gj_sj, gj_sr, gr_si, gr_sj, gr_sr, gn_si, gn_sj, gn_sr, gi_sn, gj_sn, gr_sn, gn_sn, aL_wi, aL_wj, aB_wi, aB_wj, aD_wi, aD_wj, aR_wi, aR_wj, sT_wi, sT_wj, lastA_wj, lastA_wi, prevA_wj, prevA_wi, hj]) (by simp [qi_wi, qi_wj, qj_wi, qj_wj, gi_si, gi_sj, gi_sr, gj_si, gj_sj, gj_sr, gr_si, gr_sj, gr_sr, gn_si, gn_sj, gn_sr, gi_sn, gj_sn, gr_sn, gn_sn, aL_wi, aL_wj, aB_wi, aB_wj, aD_wi, aD_wj, aR_wi, aR_wj, sT_wi, sT_wj, lastA_wj, lastA_wi, prevA_wj, prevA_wi, capS_wj, capS_wi]) (by simp [qi_wi, qi_wj, qj_wi, qj_wj, gi_si, gi_sj, gi_sr, gj_si, gj_sj, gj_sr, gr_si, gr_sj, gr_sr, gn_si, gn_sj, gn_sr, gi_sn, gj_sn, gr_sn, gn_sn, aL_wi, aL_wj, aB_wi, aB_wj, aD_wi, aD_wj, aR_wi, aR_wj, sT_wi, sT_wj, lastA_wj, lastA_wi, prevA_wj, prevA_wi, capS_wj, capS_wi])) hi
    have e5 : capA (wi a 20 i 5) i = 4 := (by unfold capA; simp [qi_wi, qi_wj, qj_wi, qj_wj, gi_si, gi_sj, gi_sr, gj_si, gj_sj, gj_sr, gr_si, gr_sj, gr_sr, gn_si, gn_sj, gn_sr, gi_sn, gj_sn, gr_sn, gn_sn, aL_wi, aL_wj, aB_wi, aB_wj, aD_wi, aD_wj, aR_wi, aR_wj, sT_wi, sT_wj, lastA_wj, lastA_wi, prevA_wj, prevA_wi, show (5 : Int32).toNatClampNeg = 5 from rfl])
    have := capA_le a i
    exact ⟨by simpa [qi_wi, qi_wj, qj_wi, qj_wj, gi_si, gi_sj, gi_sr, gj_si, gj_sj, gj_sr, gr_si, gr_sj, gr_sr, gn_si, gn_sj, gn_sr, gi_sn, gj_sn, gr_sn, gn_sn, aL_wi, aL_wj, aB_wi, aB_wj, aD_wi, aD_wj, aR_wi, aR_wj, sT_wi, sT_wj, lastA_wj, lastA_wi, prevA_wj, prevA_wi, capS_wj, capS_wi] using c1, by simpa [qi_wi, qi_wj, qj_wi, qj_wj, gi_si, gi_sj, gi_sr, gj_si, gj_sj, gj_sr, gr_si, gr_sj, gr_sr, gn_si, gn_sj, gn_sr, gi_sn, gj_sn, gr_sn, gn_sn, aL_wi, aL_wj, aB_wi, aB_wj, aD_wi, aD_wj, aR_wi, aR_wj, sT_wi, sT_wj, lastA_wj, lastA_wi, prevA_wj, prevA_wi, capS_wj, capS_wi] using c2, by simpa [qi_wi, qi_wj, qj_wi, qj_wj, gi_si, gi_sj, gi_sr, gj_si, gj_sj, gj_sr, gr_si, gr_sj, gr_sr, gn_si, gn_sj, gn_sr, gi_sn, gj_sn, gr_sn, gn_sn, aL_wi, aL_wj, aB_wi, aB_wj, aD_wi, aD_wj, aR_wi, aR_wj, sT_wi, sT_wj, lastA_wj, lastA_wi, prevA_wj, prevA_wi, capS_wj, capS_wi] using c3, by simpa [qi_wi, qi_wj, qj_wi, qj_wj, gi_si, gi_sj, gi_sr, gj_si, gj_sj, gj_sr, gr_si, gr_sj, gr_sr, gn_si, gn_sj, gn_sr, gi_sn, gj_sn, gr_sn, gn_sn, aL_wi, aL_wj, aB_wi, aB_wj, aD_wi, aD_wj, aR_wi, aR_wj, sT_wi, sT_wj, lastA_wj, lastA_wi, prevA_wj, prevA_wi, capS_wj, capS_wi] using c4, by simpa [qi_wi, qi_wj, qj_wi, qj_wj, gi_si, gi_sj, gi_sr, gj_si, gj_sj, gj_sr, gr_si, gr_sj, gr_sr, gn_si, gn_sj, gn_sr, gi_sn, gj_sn, gr_sn, gn_sn, aL_wi, aL_wj, aB_wi, aB_wj, aD_wi, aD_wj, aR_wi, aR_wj, sT_wi, sT_wj, lastA_wj, lastA_wi, prevA_wj, prevA_wi, capS_wj, capS_wi] using c5, by simpa [qi_wi, qi_wj, qj_wi, qj_wj, gi_si, gi_sj, gi_sr, gj_si, gj_sj, gj_sr, gr_si, gr_sj, gr_sr, gn_si, gn_sj, gn_sr, gi_sn, gj_sn, gr_sn, gn_sn, aL_wi, aL_wj, aB_wi, aB_wj, aD_wi, aD_wj, aR_wi, aR_wj, sT_wi, sT_wj, lastA_wj, lastA_wi, prevA_wj, prevA_wi, capS_wj, capS_wi] using c6, by simpa [qi_wi, qi_wj, qj_wi, qj_wj, gi_si, gi_sj, gi_sr, gj_si, gj_sj, gj_sr, gr_si, gr_sj, gr_sr, gn_si, gn_sj, gn_sr, gi_sn, gj_sn, gr_sn, gn_sn, aL_wi, aL_wj, aB_wi, aB_wj, aD_wi, aD_wj, aR_wi, aR_wj, sT_wi, sT_wj, lastA_wj, lastA_wi, prevA_wj, prevA_wi, capS_wj, capS_wi] using c7, by simp [qi_wi, qi_wj, qj_wi, qj_wj, gi_si, gi_sj, gi_sr, gj_si, gj_sj, gj_sr, gr_si, gr_sj, gr_sr, gn_si, gn_sj, gn_sr, gi_sn, gj_sn, gr_sn, gn_sn, aL_wi, aL_wj, aB_wi, aB_wj, aD_wi, aD_wj, aR_wi, aR_wj, sT_wi, sT_wj, lastA_wj, lastA_wi, prevA_wj, prevA_wi, capS_wj, capS_wi]; omega⟩
  · (try simp (disch := simp [nf, nk]) only [OkL_wi, OkL_wj])
    intro x hx
    by_cases q : x = i
    · subst q; have := hOkL x hx; simp [qi_wi, qi_wj, qj_wi, qj_wj, gi_si, gi_sj, gi_sr, gj_si, gj_sj, gj_sr, gr_si, gr_sj, gr_sr, gn_si, gn_sj, gn_sr, gi_sn, gj_sn, gr_sn, gn_sn, aL_wi, aL_wj, aB_wi, aB_wj, aD_wi, aD_wj, aR_wi, aR_wj, sT_wi, sT_wj, lastA_wj, lastA_wi, prevA_wj, prevA_wi, show (5 : Int32).toNatClampNeg = 5 from rfl]; exact ⟨rfl, this.2.2⟩
    · simp [qi_wi, qi_wj, qj_wi, qj_wj, gi_si, gi_sj, gi_sr, gj_si, gj_sj, gj_sr, gr_si, gr_sj, gr_sr, gn_si, gn_sj, gn_sr, gi_sn, gj_sn, gr_sn, gn_sn, aL_wi, aL_wj, aB_wi, aB_wj, aD_wi, aD_wj, aR_wi, aR_wj, sT_wi, sT_wj, lastA_wj, lastA_wi, prevA_wj, prevA_wi, q]; exact hOkL x hx
  · (try simp (disch := simp [nf, nk]) only [OkT_wi, OkT_wj])
    intro x hx
    by_cases q : x = i
    · subst q; have := (hOkT x hx).2; simp [qi_wi, qi_wj, qj_wi, qj_wj, gi_si, gi_sj, gi_sr, gj_si, gj_sj, gj_sr, gr_si, gr_sj, gr_sr, gn_si, gn_sj, gn_sr, gi_sn, gj_sn, gr_sn, gn_sn, aL_wi, aL_wj, aB_wi, aB_wj, aD_wi, aD_wj, aR_wi, aR_wj, sT_wi, sT_wj, lastA_wj, lastA_wi, prevA_wj, prevA_wi, show (5 : Int32).toNatClampNeg = 5 from rfl]; intro z; have := (this z).1; omega
    · simp [qi_wi, qi_wj, qj_wi, qj_wj, gi_si, gi_sj, gi_sr, gj_si, gj_sj, gj_sr, gr_si, gr_sj, gr_sr, gn_si, gn_sj, gn_sr, gi_sn, gj_sn, gr_sn, gn_sn, aL_wi, aL_wj, aB_wi, aB_wj, aD_wi, aD_wj, aR_wi, aR_wj, sT_wi, sT_wj, lastA_wj, lastA_wi, prevA_wj, prevA_wi, q]; exact hOkT x hx
  · (try simp (disch := simp [nf, nk]) only [OkN_wi, OkN_wj])
    refine ⟨hOkN.1, hOkN.2.1, hOkN.2.2.imp id ?_⟩
    rintro ⟨x, hx, q1, q2, q3⟩
    have ne : x ≠ i := fun z => by subst z; omega
    exact ⟨x, hx, q1, by simp [qi_wi, qi_wj, qj_wi, qj_wj, gi_si, gi_sj, gi_sr, gj_si, gj_sj, gj_sr, gr_si, gr_sj, gr_sr, gn_si, gn_sj, gn_sr, gi_sn, gj_sn, gr_sn, gn_sn, aL_wi, aL_wj, aB_wi, aB_wj, aD_wi, aD_wj, aR_wi, aR_wj, sT_wi, sT_wj, lastA_wj, lastA_wi, prevA_wj, prevA_wi, ne]; exact q2, q3⟩
  · (try simp (disch := simp [nf, nk]) only [OkB_wi, OkB_wj])
    intro b hb
    have e := heldZ_d (a := a) (a2 := wi a 20 i 5) (b := b) (i := i) (n := aL a) (fun j _ hj => hvZ_c (by simp [qi_wi, qi_wj, qj_wi, qj_wj, gi_si, gi_sj, gi_sr, gj_si, gj_sj, gj_sr, gr_si, gr_sj, gr_sr, gn_si, gn_sj, gn_sr, gi_sn, gj_sn, gr_sn, gn_sn, aL_wi, aL_wj, aB_wi, aB_wj, aD_wi, aD_wj, aR_wi, aR_wj, sT_wi, sT_wj, lastA_wj, lastA_wi, prevA_wj, prevA_wi, hj]) (by simp [qi_wi, qi_wj, qj_wi, qj_wj, gi_si, gi_sj, gi_sr, gj_si, gj_sj, gj_sr, gr_si, gr_sj, gr_sr, gn_si, gn_sj, gn_sr, gi_sn, gj_sn, gr_sn, gn_sn, aL_wi, aL_wj, aB_wi, aB_wj, aD_wi, aD_wj, aR_wi, aR_wj, sT_wi, sT_wj, lastA_wj, lastA_wi, prevA_wj, prevA_wi, heldZ_wj, heldZ_wi]) (by simp [qi_wi, qi_wj, qj_wi, qj_wj, gi_si, gi_sj, gi_sr, gj_si, gj_sj, gj_sr, gr_si, gr_sj, gr_sr, gn_si, gn_sj, gn_sr, gi_sn, gj_sn, gr_sn, gn_sn, aL_wi, aL_wj, aB_wi, aB_wj, aD_wi, aD_wj, aR_wi, aR_wj, sT_wi, sT_wj, lastA_wj, lastA_wi, prevA_wj, prevA_wi, heldZ_wj, heldZ_wi])) hi
    have e5 : hvZ (wi a 20 i 5) b i = 0 := (by unfold hvZ; simp [qi_wi, qi_wj, qj_wi, qj_wj, gi_si, gi_sj, gi_sr, gj_si, gj_sj, gj_sr, gr_si, gr_sj, gr_sr, gn_si, gn_sj, gn_sr, gi_sn, gj_sn, gr_sn, gn_sn, aL_wi, aL_wj, aB_wi, aB_wj, aD_wi, aD_wj, aR_wi, aR_wj, sT_wi, sT_wj, lastA_wj, lastA_wi, prevA_wj, prevA_wi, show (5 : Int32).toNatClampNeg = 5 from rfl])
    have := hvZ_pos (b := b) hOkT hi
    have z := hOkB b hb
    refine ⟨z.1, z.2.1, z.2.2.1, z.2.2.2.1, ?_⟩
    show heldZ (wi a 20 i 5) b (aL a) ≤ (qj a 28 b).toInt
    omega
  · (simp (disch := simp [nf, nk]) only [OkP_wi, OkP_wj]; exact hOkP)
  · (simp (disch := simp [nf, nk]) only [OkD_wi, OkD_wj]; exact hOkD)
  · (try simp (disch := simp [nf, nk]) only [OkZ_wi, OkZ_wj])
    refine ⟨by simpa [qi_wi, qi_wj, qj_wi, qj_wj, gi_si, gi_sj, gi_sr, gj_si, gj_sj, gj_sr, gr_si, gr_sj, gr_sr, gn_si, gn_sj, gn_sr, gi_sn, gj_sn, gr_sn, gn_sn, aL_wi, aL_wj, aB_wi, aB_wj, aD_wi, aD_wj, aR_wi, aR_wj, sT_wi, sT_wj, lastA_wj, lastA_wi, prevA_wj, prevA_wi] using hOkZ.1, by simpa [qi_wi, qi_wj, qj_wi, qj_wj, gi_si, gi_sj, gi_sr, gj_si, gj_sj, gj_sr, gr_si, gr_sj, gr_sr, gn_si, gn_sj, gn_sr, gi_sn, gj_sn, gr_sn, gn_sn, aL_wi, aL_wj, aB_wi, aB_wj, aD_wi, aD_wj, aR_wi, aR_wj, sT_wi, sT_wj, lastA_wj, lastA_wi, prevA_wj, prevA_wi] using hOkZ.2.1, fun x hx => ?_⟩
    by_cases q : x = i
    · subst q; simp [qi_wi, qi_wj, qj_wi, qj_wj, gi_si, gi_sj, gi_sr, gj_si, gj_sj, gj_sr, gr_si, gr_sj, gr_sr, gn_si, gn_sj, gn_sr, gi_sn, gj_sn, gr_sn, gn_sn, aL_wi, aL_wj, aB_wi, aB_wj, aD_wi, aD_wj, aR_wi, aR_wj, sT_wi, sT_wj, lastA_wj, lastA_wi, prevA_wj, prevA_wi, show (5 : Int32).toNatClampNeg = 5 from rfl]
    · simp [qi_wi, qi_wj, qj_wi, qj_wj, gi_si, gi_sj, gi_sr, gj_si, gj_sj, gj_sr, gr_si, gr_sj, gr_sr, gn_si, gn_sj, gn_sr, gi_sn, gj_sn, gr_sn, gn_sn, aL_wi, aL_wj, aB_wi, aB_wj, aD_wi, aD_wj, aR_wi, aR_wj, sT_wi, sT_wj, lastA_wj, lastA_wi, prevA_wj, prevA_wi, q]; exact hOkZ.2.2 x hx
  · (simp (disch := simp [nf, nk]) only [OkR_wi, OkR_wj]; exact hOkR)
theorem cap_back {a : RS} {i : Nat} (hk : Ok a) (hi : i < aL a) (hs : sT a i = 0 ∨ sT a i = 2 ∨ sT a i = 4) : aR a < capS (wi a 20 i 5) (aL a) := by
  have e := capS_d (a := a) (a2 := wi a 20 i 5) (i := i) (n := aL a) (fun j _ hj => capA_c (if_neg (fun q => hj q.2)) rfl rfl) hi
  have e5 : capA (wi a 20 i 5) i = 4 := by
    have : sT (wi a 20 i 5) i = 5 := by rw [sT_wi, if_pos ⟨rfl, rfl⟩]; rfl
    unfold capA; rw [if_pos this]
  have e6 : capA a i ≤ 3 := by
    unfold capA
    rcases hs with q | q | q <;> rw [q] <;> simp <;> split <;> omega
  have := hk.1.2.2.2.2.2.2.2
  omega
theorem b_back {S : St} (hI : Inv S) (p : Int32) : Both (wp_X8_back p) (wp_X9_back p) S := by
  obtain ⟨ob, h, hk⟩ := id hI
  have hL := hk.1.2.1
  rcases ix_or p (aL (pr S)) (by omega) with ⟨i, hi, rfl⟩ | hn
  · have ini : vp_in (nI i) 60 := vp_in_nI (by omega) (by omega)
    have est : gr S 5 i 4 = some (sT (pr S) i) := (h.2.1 i hi).2.2.2.2.2.1
    have e0 := st_eq (k := 0) hk.2.1 hi (by omega)
    have e2 := st_eq (k := 2) hk.2.1 hi (by omega)
    have e4 := st_eq (k := 4) hk.2.1 hi (by omega)
    have g20 : gi S 20 0 i = qi (pr S) 20 i := gi_pr rfl
    by_cases hs : sT (pr S) i = 0 ∨ sT (pr S) i = 2 ∨ sT (pr S) i = 4
    · have key := key_back h hk hi hs
      have hcap := cap_back hk hi hs
      have hcl := capS_le (pr S) (aL (pr S))
      have hcr := hk.1.2.2.2.2.2.2.2
      have h30 : qi (pr S) 8 30 = nI (aR (pr S)) := hk.1.2.2.2.2.2.2.1
      have hR : aR (pr S) < 240 := by
        have := capS_le (wi (pr S) 20 i 5) (aL (pr S)); omega
      have d1 : gi (sr S 5 i 4 (some 5)) 2 0 1 = nI (aR (pr S)) := h.2.2.2.2.2.2.2.2.2.1.trans h30
      have d3 : gn (sr S 5 i 4 (some 5)) 3 = aR (pr S) := h.1.2.2.2.2.2.1
      refine ⟨1, (cAdd (sr S 5 i 4 (some 5)) (aR (pr S)) 7 (nI i) (-1) 0), rNote (si (cAdd (sr S 5 i 4 (some 5)) (aR (pr S)) 7 (nI i) (-1) 0) 20 0 i 5) (aR (pr S)) 7 (nI i) (-1) 0, fun post hp => ?_, fun post hp => ?_, ?_⟩
      · refine c_lotAtI h hk.1 hi ⟨fun c => (by cases c), fun j e => ?_⟩
        cases e
        unfold wp_X5_canGoBack
        rw [est]
        have fin : ∀ S6 : St, S6 = sr S 5 i 4 (some 5) → wp_X2_add (7 : Int32) (nI i) (-1 : Int32) (0 : Int64) S6 (fun S8 => post (1 : Int32) S8) := by
          intro S6 e6
          subst e6
          exact c_add (n := aR (pr S)) d1 hR d3 hp
        refine ⟨fun _ => ⟨fun _ => fin, fun c => absurd c (by decide)⟩, fun c0 => ⟨fun _ => ⟨fun _ => fin, fun c => absurd c (by decide)⟩, fun c2 => ⟨fun c4 => ?_, fun _ => ⟨fun _ => fin, fun c => absurd c (by decide)⟩⟩⟩⟩
        exact absurd hs (fun q => q.elim (fun z => c0 (by rw [z])) (fun q => q.elim (fun z => c2 (by rw [z])) (fun z => c4 (by rw [z]))))
      · have hq : pr (cAdd (sr S 5 i 4 (some 5)) (aR (pr S)) 7 (nI i) (-1) 0) = pr S := pr_add
        generalize (cAdd (sr S 5 i 4 (some 5)) (aR (pr S)) 7 (nI i) (-1) 0) = Z at hq hp ⊢
        have t1 : gi Z 20 0 i = qi (pr S) 20 i := by rw [gi_pr rfl, hq]
        have t2 : gi Z 8 0 30 = nI (aR (pr S)) := by rw [gi_pr rfl, hq]; exact h30
        refine r_isLotI (hq ▸ hk.1) (hq ▸ hi) ⟨fun c => absurd c (by decide), fun _ => ⟨ini, ?_⟩⟩
        rw [nI_clamp (by omega), t1]
        have fin : ∀ S5 : St, S5 = si Z 20 0 i (5 : Int32) → wp_X9_note (7 : Int32) (nI i) (-1 : Int32) (0 : Int64) S5 (fun S6 => post (1 : Int32) S6) := by
          intro S5 e5
          subst e5
          have t3 : gi (si Z 20 0 i 5) 8 0 30 = nI (aR (pr S)) := t2
          exact r_note t3 (by omega) hp
        refine ⟨fun _ => ⟨ini, fin⟩, fun c0 => ⟨ini, fun _ => ⟨ini, fin⟩, fun c2 => ⟨ini, fun _ => ⟨ini, fin⟩, fun c4 => ?_⟩⟩⟩
        exact absurd hs (fun q => q.elim (fun z => c0 (e0.mpr z)) (fun q => q.elim (fun z => c2 (e2.mpr z)) (fun z => c4 (e4.mpr z))))
      · exact fin_note (a := wi (pr S) 20 i 5) key.1 key.2 (by rw [aR_wi, if_neg (fun q => absurd q.1 (by decide)), aL_wi, if_neg (fun q => absurd q.1 (by decide))]; exact hcap) (CS.si CS.rf rfl) (by rw [pr_si rfl, pr_add, pr_sr]) (by rw [aR_wi]; exact if_neg (fun q => absurd q.1 (by decide)))
    · refine Both.ro hI (-1) (fun post hp => ?_) (fun post hp => ?_)
      · refine c_lotAtI h hk.1 hi ⟨fun c => (by cases c), fun j e => ?_⟩
        cases e
        unfold wp_X5_canGoBack
        rw [est]
        refine ⟨fun c => absurd (Or.inl (Option.some.inj c)) hs, fun c0 => ⟨fun c => absurd (Or.inr (Or.inl (Option.some.inj c))) hs, fun c2 => ⟨fun _ => ⟨fun c => absurd rfl c, fun _ => hp⟩, fun c => absurd (Or.inr (Or.inr (Option.some.inj c))) hs⟩⟩⟩
      · refine r_isLotI hk.1 hi ⟨fun c => absurd c (by decide), fun _ => ⟨ini, ?_⟩⟩
        rw [nI_clamp (by omega), g20]
        exact ⟨fun c => absurd (Or.inl (e0.mp c)) hs, fun c0 => ⟨ini, fun c => absurd (Or.inr (Or.inl (e2.mp c))) hs, fun c2 => ⟨ini, fun c => absurd (Or.inr (Or.inr (e4.mp c))) hs, fun _ => hp⟩⟩⟩
  · refine Both.ro hI (-1) (fun post hp => ?_) (fun post hp => ?_)
    · refine c_lotAtN h hk.1 hn ?_
      exact ⟨fun _ => hp, fun j e => (by cases e)⟩
    · refine r_isLotN hk.1 hn ?_
      exact ⟨fun _ => hp, fun c => absurd rfl c⟩
