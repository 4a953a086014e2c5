theorem cr_try {S : St} {a : RS} {ob b : Nat} {ms : Int64} (h : CR S a ob) (hb : b < aB a) : CR (sj (sj S 1 b 2 ms) 29 0 b ms) (wj a 29 b ms) ob := by
  unfold CR CRc CRl CRt CRo CRb CRp CRk CRd CRs CRr at *
  simp only [aL, aB, aD, aR, sT, lastA, gi_si, gi_sj, gi_sr, gj_si, gj_sj, gj_sr, gr_si, gr_sj, gr_sr, gn_si, gn_sj, gn_sr, qi_wi, qi_wj, qj_wi, qj_wj] at *
  simp at *
  grind
