/-! ===== the clock's time, the day, the clock off, a sale ===== -/
theorem CR.time {S : St} {a : RS} {ob : Nat} {t : Int64} (h : CR S a ob) : CR (sj S 4 0 4 t) (wj a 8 18 t) ob := by
  obtain ⟨hCRc, hCRl, hCRt, hCRo, hCRb, hCRp, hCRk, hCRd, hCRs, hCRr⟩ := h
  refine ⟨?_, ?_, ?_, ?_, ?_, ?_, ?_, ?_, ?_, ?_⟩
  · (simp (disch := simp [nf, nk]) only [CRc_wj, CRc_sj]; exact hCRc)
  · (simp (disch := simp [nf, nk]) only [CRl_wj, CRl_sj]; exact hCRl)
  · (simp (disch := simp [nf, nk]) only [CRt_wj, CRt_sj]; exact hCRt)
  · (simp (disch := simp [nf, nk]) only [CRo_wj, CRo_sj]; exact hCRo)
  · (simp (disch := simp [nf, nk]) only [CRb_wj, CRb_sj]; exact hCRb)
  · (simp (disch := simp [nf, nk]) only [CRp_wj, CRp_sj]; exact hCRp)
  · obtain ⟨k1, k2, k3, k4, k5, k6, k7⟩ := hCRk
    exact ⟨k1, k2, k3, k4, rfl, k6, k7⟩
  · (simp (disch := simp [nf, nk]) only [CRd_wj, CRd_sj]; exact hCRd)
  · (simp (disch := simp [nf, nk]) only [CRs_wj, CRs_sj]; exact hCRs)
  · (simp (disch := simp [nf, nk]) only [CRr_wj, CRr_sj]; exact hCRr)
theorem Ok.time {a : RS} {t : Int64} (hk : Ok a) (t0 : 0 ≤ t.toInt) (t1 : t.toInt ≤ (qj a 8 19).toInt) : Ok (wj a 8 18 t) := by
  obtain ⟨hOkC, hOkL, hOkT, hOkN, hOkB, hOkP, hOkD, hOkZ, hOkR⟩ := hk
  refine ⟨?_, ?_, ?_, ?_, ?_, ?_, ?_, ?_, ?_⟩
  · (simp (disch := simp [nf, nk]) only [OkC_wj]; exact hOkC)
  · (simp (disch := simp [nf, nk]) only [OkL_wj]; exact hOkL)
  · (simp (disch := simp [nf, nk]) only [OkT_wj]; exact hOkT)
  · refine ⟨hOkN.1, hOkN.2.1, hOkN.2.2.imp id ?_⟩
    rintro ⟨x, hx, q1, q2, q3, q4, q5⟩
    exact ⟨x, hx, q1, q2, t0, t1, q5⟩
  · (simp (disch := simp [nf, nk]) only [OkB_wj]; exact hOkB)
  · (simp (disch := simp [nf, nk]) only [OkP_wj]; exact hOkP)
  · (simp (disch := simp [nf, nk]) only [OkD_wj]; exact hOkD)
  · (simp (disch := simp [nf, nk]) only [OkZ_wj]; exact hOkZ)
  · (simp (disch := simp [nf, nk]) only [OkR_wj]; exact hOkR)
theorem CR.day {S : St} {a : RS} {ob : Nat} {t : Int64} (h : CR S a ob) : CR (sj S 7 0 9 t) (wj a 8 16 t) ob := by
  obtain ⟨hCRc, hCRl, hCRt, hCRo, hCRb, hCRp, hCRk, hCRd, hCRs, hCRr⟩ := h
  refine ⟨?_, ?_, ?_, ?_, ?_, ?_, ?_, ?_, ?_, ?_⟩
  · (simp (disch := simp [nf, nk]) only [CRc_wj, CRc_sj]; exact hCRc)
  · (simp (disch := simp [nf, nk]) only [CRl_wj, CRl_sj]; exact hCRl)
  · (simp (disch := simp [nf, nk]) only [CRt_wj, CRt_sj]; exact hCRt)
  · (simp (disch := simp [nf, nk]) only [CRo_wj, CRo_sj]; exact hCRo)
  · (simp (disch := simp [nf, nk]) only [CRb_wj, CRb_sj]; exact hCRb)
  · (simp (disch := simp [nf, nk]) only [CRp_wj, CRp_sj]; exact hCRp)
  · obtain ⟨k1, k2, k3, k4, k5, k6, k7⟩ := hCRk
    exact ⟨k1, k2, k3, k4, k5, k6, rfl⟩
  · (simp (disch := simp [nf, nk]) only [CRd_wj, CRd_sj]; exact hCRd)
  · exact hCRs
  · (simp (disch := simp [nf, nk]) only [CRr_wj, CRr_sj]; exact hCRr)
theorem Ok.day {a : RS} {t : Int64} (hk : Ok a) : Ok (wj a 8 16 t) := by
  obtain ⟨hOkC, hOkL, hOkT, hOkN, hOkB, hOkP, hOkD, hOkZ, hOkR⟩ := hk
  refine ⟨?_, ?_, ?_, ?_, ?_, ?_, ?_, ?_, ?_⟩
  · (simp (disch := simp [nf, nk]) only [OkC_wj]; exact hOkC)
  · (simp (disch := simp [nf, nk]) only [OkL_wj]; exact hOkL)
  · (simp (disch := simp [nf, nk]) only [OkT_wj]; exact hOkT)
  · (simp (disch := simp [nf, nk]) only [OkN_wj]; exact hOkN)
  · (simp (disch := simp [nf, nk]) only [OkB_wj]; exact hOkB)
  · (simp (disch := simp [nf, nk]) only [OkP_wj]; exact hOkP)
  · (simp (disch := simp [nf, nk]) only [OkD_wj]; exact hOkD)
  · (simp (disch := simp [nf, nk]) only [OkZ_wj]; exact hOkZ)
  · (simp (disch := simp [nf, nk]) only [OkR_wj]; exact hOkR)
theorem CR.off {S : St} {a : RS} {ob : Nat} {f : Nat → Int64} (h : CR S a ob) (hf : ∀ b, b < aB a → f b = -1) : CR (sP (sr S 4 0 0 none) f) (offA a) ob := by
  obtain ⟨hCRc, hCRl, hCRt, hCRo, hCRb, hCRp, hCRk, hCRd, hCRs, hCRr⟩ := h
  have e := CR.P (S := sr S 4 0 0 none) (a := offA a) (ob := ob) (f := f) (g := fun b => qj a 30 b)
  rw [show wP (offA a) (fun b => qj a 30 b) = offA a from wP_id (offA a)] at e
  unfold offA at *
  suffices hh : CR (sP (sr S 4 0 0 none) f) (wi a 8 17 (-1)) ob from hh
  refine ⟨?_, ?_, ?_, ?_, ?_, ?_, ?_, ?_, ?_, ?_⟩
  · exact hCRc
  · exact hCRl
  · exact hCRt
  · exact hCRo
  · exact hCRb
  · intro b hb
    rw [gj_sP3, hf b hb]; rfl
  · obtain ⟨k1, k2, k3, k4, k5, k6, k7⟩ := hCRk
    exact ⟨rfl, k2, k3, k4, k5, k6, k7⟩
  · exact hCRd
  · exact hCRs
  · exact hCRr
theorem Ok.off {a : RS} (hk : Ok a) : Ok (offA a) := by
  obtain ⟨hOkC, hOkL, hOkT, hOkN, hOkB, hOkP, hOkD, hOkZ, hOkR⟩ := hk
  unfold offA
  refine ⟨?_, ?_, ?_, ?_, ?_, ?_, ?_, ?_, ?_⟩
  · (simp (disch := simp [nf, nk]) only [OkC_wi]; exact hOkC)
  · (simp (disch := simp [nf, nk]) only [OkL_wi]; exact hOkL)
  · (simp (disch := simp [nf, nk]) only [OkT_wi]; exact hOkT)
  · exact ⟨hOkN.1, hOkN.2.1, Or.inl rfl⟩
  · (simp (disch := simp [nf, nk]) only [OkB_wi]; exact hOkB)
  · exact fun c => absurd rfl c
  · (simp (disch := simp [nf, nk]) only [OkD_wi]; exact hOkD)
  · (simp (disch := simp [nf, nk]) only [OkZ_wi]; exact hOkZ)
  · (simp (disch := simp [nf, nk]) only [OkR_wi]; exact hOkR)
theorem prc_Z {a : RS} (h : Ok a) (hn : qi a 8 17 ≠ -1) {t : Int64} (t0 : 0 ≤ t.toInt) (t1 : t.toInt < (qj a 8 19).toInt) : 0 ≤ (prcV a t).toInt ∧ (prcV a t).toInt ≤ 1000000000 := by
  obtain ⟨x, hx, q1, q2, n1, n2, n3, n4, n5, n6, n7⟩ := h.2.2.2.1.2.2.resolve_left hn
  have hm := n7 t.toInt t0 t1
  have d0 : 0 ≤ t.toInt / 100 := by omega
  have m0 : 0 ≤ (qj a 8 21).toInt * (t.toInt / 100) := Int.mul_nonneg (by omega) d0
  have ed : (t / (100 : Int64)).toInt = t.toInt / 100 := j_div t0 (by decide)
  have em : (qj a 8 21 * (t / (100 : Int64))).toInt = (qj a 8 21).toInt * (t.toInt / 100) := by
    rw [← ed]; rw [← ed] at hm m0; exact j_mul (by omega) (by omega)
  have es : (prcV a t).toInt = (qj a 8 20).toInt - (qj a 8 21).toInt * (t.toInt / 100) := by
    unfold prcV; rw [← em]; exact j_sub (by rw [em]; omega) (by rw [em]; omega)
  omega
theorem sale_off {a : RS} {i b : Nat} {c : Int64} {M : Int32} : offA (saleL a i b c M) = saleL (offA a) i b c M := by
  unfold offA saleL
  rw [wi_comm (k := 23) (k2 := 8) (by omega)]
  show wi (wj (wi (wi (wi (wi a 27 i M) 20 i 3) 21 i (nI b)) 8 17 (-1)) 22 i c) 23 i 1 = _
  rw [wi_comm (k := 21) (k2 := 8) (by omega), wi_comm (k := 20) (k2 := 8) (by omega), wi_comm (k := 27) (k2 := 8) (by omega)]
theorem sale_P {a : RS} {i b : Nat} {c : Int64} {M : Int32} {g : Nat → Int64} : wP (saleL a i b c M) g = saleL (wP a g) i b c M := by
  unfold saleL
  rw [wP_wi, wP_wj (by decide)]; rfl
theorem off_P {a : RS} {g : Nat → Int64} : wP (offA a) g = offA (wP a g) := rfl
theorem sale_q {a : RS} {i b : Nat} {c : Int64} {M : Int32} : sT (saleL a i b c M) i = 3 ∧ qi (saleL a i b c M) 21 i = nI b ∧ qj (saleL a i b c M) 22 i = c ∧ qi (saleL a i b c M) 20 i = 3 ∧ qi (saleL a i b c M) 23 i = 1 ∧ qi (saleL a i b c M) 27 i = M := by
  have e20 : qi (saleL a i b c M) 20 i = 3 := by unfold saleL; rw [qi_wi, if_neg (by omega), qi_wj, qi_wi, if_neg (by omega), qi_wi, if_pos ⟨rfl, rfl⟩]
  refine ⟨by unfold sT; rw [e20]; rfl, ?_, ?_, e20, ?_, ?_⟩
  · unfold saleL; rw [qi_wi, if_neg (by omega), qi_wj, qi_wi, if_pos ⟨rfl, rfl⟩]
  · unfold saleL; rw [qj_wi, qj_wj, if_pos ⟨rfl, rfl⟩]
  · unfold saleL; rw [qi_wi, if_pos ⟨rfl, rfl⟩]
  · unfold saleL; rw [qi_wi, if_neg (by omega), qi_wj, qi_wi, if_neg (by omega), qi_wi, if_neg (by omega), qi_wi, if_pos ⟨rfl, rfl⟩]
theorem sale_sa {a : RS} {i b : Nat} {c : Int64} {M : Int32} : SA a (saleL a i b c M) i := SA.i (SA.j (SA.i (SA.i (SA.i SA.rf (by omega)) (by omega)) (by omega)) (by omega)) (by omega)
theorem Ok.sale {a : RS} (h : Ok a) {i b : Nat} {c : Int64} {M : Int32} (hi : i < aL a) (hb : b < aB a) (hs : sT a i = 1) (hn : qi a 8 17 = -1) (c0 : 0 ≤ c.toInt) (c1 : c.toInt ≤ 1000000000) (hf : c.toInt ≤ (freeV a b).toInt) : Ok (saleL a i b c M) := by
  have hB := h.1.2.2.2.1
  have hL := h.1.2.1
  have okl := h.2.1 i hi
  obtain ⟨e1, e2, e3, e4, e5, e6⟩ := sale_q (a := a) (i := i) (b := b) (c := c) (M := M)
  refine Ok.lot h hi sale_sa (fun z => nI_m1 (by omega) (z.symm.trans hn)) ?_ ?_ ?_ ?_ ?_
  · rw [e1, e4, e5]
    exact ⟨rfl, by omega, Or.inr rfl, okl.2.2.2⟩
  · rw [e1, e3, e5]
    exact ⟨fun _ => c0, fun _ => ⟨rfl, c1⟩⟩
  · intro _; exact ⟨b, hb, e2⟩
  · intro b2 hb2
    rw [hvZ_on (a := saleL a i b c M) (Or.inl e1), e2, e3, hvZ_off (a := a) (by omega)]
    have := (h.2.2.2.2.1 b2 hb2).2.2.2.2
    have ef := free_Z h hb
    unfold freeV at hf
    by_cases e : nI b = nI b2
    · have := (nI_eq (by omega) (by omega)).mp e
      subst this
      rw [if_pos rfl]; omega
    · rw [if_neg e]; omega
  · have e25 : qi (saleL a i b c M) 25 i = qi a 25 i := by unfold saleL; rw [qi_wi, if_neg (by omega), qi_wj, qi_wi, if_neg (by omega), qi_wi, if_neg (by omega), qi_wi, if_neg (by omega)]
    unfold capA
    rw [e1, e25, hs]
    simp
theorem cap_sale {a : RS} (h : Ok a) {i b : Nat} {c : Int64} {M : Int32} (hi : i < aL a) (hs : sT a i = 1) : aR a < capS (saleL a i b c M) (aL a) := by
  obtain ⟨e1, e2, e3, e4, e5, e6⟩ := sale_q (a := a) (i := i) (b := b) (c := c) (M := M)
  have e := capS_sa (sale_sa (a := a) (i := i) (b := b) (c := c) (M := M)) hi
  have e25 : qi (saleL a i b c M) 25 i = qi a 25 i := by unfold saleL; rw [qi_wi, if_neg (by omega), qi_wj, qi_wi, if_neg (by omega), qi_wi, if_neg (by omega), qi_wi, if_neg (by omega)]
  have c1 : capA a i + 1 ≤ capA (saleL a i b c M) i := by
    unfold capA
    rw [e1, e25, hs]
    simp
  have := h.1.2.2.2.2.2.2.2
  omega
def saleS (S : St) (i b : Nat) (c : Int64) (M : Int32) : St := sj (si (sr (si (si S 5 i 11 M) 5 i 8 1) 5 i 4 (some 3)) 5 i 5 (nI b)) 5 i 6 c
theorem CR.sale {S : St} {a : RS} {ob i b : Nat} {c : Int64} {M : Int32} (h : CR S a ob) (hi : i < aL a) : CR (saleS S i b c M) (saleL a i b c M) ob := by
  obtain ⟨e1, e2, e3, e4, e5, e6⟩ := sale_q (a := a) (i := i) (b := b) (c := c) (M := M)
  have row := h.2.1 i hi
  refine CR.lot h (SB.j (SB.i (SB.r (SB.i (SB.i SB.rf))))) sale_sa ?_ ?_ ?_
  · rw [e1, e5, e6]
    unfold saleS
    refine ⟨?_, ?_, ?_, ?_, ?_, ?_, ?_, ?_, ?_⟩
    · rw [gi_sj, gi_si, if_neg (by omega), gi_sr, gi_si, if_neg (by omega), gi_si, if_neg (by omega)]; exact row.2.1
    · rw [gi_sj, gi_si, if_neg (by omega), gi_sr, gi_si, if_neg (by omega), gi_si, if_neg (by omega)]; exact row.2.2.1
    · rw [gj_sj, if_neg (by omega)]; exact row.2.2.2.1
    · rw [gj_sj, if_neg (by omega)]; exact row.2.2.2.2.1
    · rw [gr_sj, gr_si, gr_sr]; exact if_pos ⟨rfl, rfl, rfl⟩
    · rw [gi_sj, gi_si, if_neg (by omega), gi_sr, gi_si]; exact if_pos ⟨rfl, rfl, rfl⟩
    · rw [gi_sj, gi_si, if_neg (by omega), gi_sr, gi_si, if_neg (by omega), gi_si, if_neg (by omega)]; exact row.2.2.2.2.2.2.2.1
    · rw [gi_sj, gi_si, if_neg (by omega), gi_sr, gi_si, if_neg (by omega), gi_si, if_neg (by omega)]; exact row.2.2.2.2.2.2.2.2.1
    · rw [gi_sj, gi_si, if_neg (by omega), gi_sr, gi_si, if_neg (by omega), gi_si]; exact if_pos ⟨rfl, rfl, rfl⟩
  · intro _
    rw [e2, e3]
    unfold saleS
    refine ⟨?_, ?_⟩
    · rw [gi_sj, gi_si]; exact if_pos ⟨rfl, rfl, rfl⟩
    · rw [gj_sj]; exact if_pos ⟨rfl, rfl, rfl⟩
  · rw [e1]; exact fun c => absurd c (by omega)
theorem PR.add {S S1 : St} {n : Nat} {so lo bu : Int32} {ce : Int64} (h : PR S S1) : PR S (cAdd S1 n so lo bu ce) := by
  refine ⟨pr_add.trans h.1, ?_⟩
  show gn S1 99 + 1 + gn S 3 = gn S 99 + (gn S1 3 + 1)
  have := h.2
  omega
theorem PR.si {S S1 : St} {k j f : Nat} {v : Int32} (h : PR S S1) (hk : isR k = false) : PR S (si S1 k j f v) := ⟨(pr_siC hk).trans h.1, h.2⟩
theorem PR.sj {S S1 : St} {k j f : Nat} {v : Int64} (h : PR S S1) (hk : isR k = false) : PR S (sj S1 k j f v) := ⟨(pr_sjC hk).trans h.1, h.2⟩
theorem PR.sr {S S1 : St} {k j f : Nat} {v : Option Nat} (h : PR S S1) : PR S (sr S1 k j f v) := ⟨pr_sr.trans h.1, h.2⟩
noncomputable def stopF (S : St) (B : Nat) : Nat → Int64 := dropF (fun b => gj S 1 b 3) (fun b => ¬ gj S 1 b 3 < 0) B
theorem stopF_m {S : St} {B : Nat} (h : ∀ b, b < B → gj S 1 b 3 = -1 ∨ 0 ≤ (gj S 1 b 3).toInt) : ∀ b, b < B → stopF S B b = -1 := by
  intro b hb
  unfold stopF
  by_cases q : gj S 1 b 3 < 0
  · rw [dropF_out _ _ (fun z => z q)]
    rcases h b hb with z | z
    · exact z
    · have q := (j_lt (y := 0)).mp q
      rw [show (0 : Int64).toInt = 0 from rfl] at q
      omega
  · exact dropF_in _ _ hb q
theorem c_sellByClock {S : St} {a : RS} {ob i j : Nat} (h : CR S a ob) (hk : OkC a) (hi : i < aL a) (hj : j < aB a) {M : Int32} (hM : mkM (fun b => b ≠ j ∧ gj S 1 b 3 = gj S 1 j 3) (aB a) = M) {c : Int64} (hc : prcV a (gj S 1 j 3) = c) (hR : aR a < 240) {post : St → Prop}
    (hp : post (cAdd (sP (sr (saleS S i j c M) 4 0 0 none) (stopF S (aB a))) (aR a) 1 (nI i) (nI j) c)) : wp_X8_sellByClock i j S post := by
  have hB := hk.2.2.2.1
  have g7 : gi S 7 0 7 = nI (aB a) := h.1.2.1.trans hk.2.2.1
  have g11 : ∀ b, b < aB a → gr S 11 0 b = some b := fun b hb => (h.2.2.2.2.1 b hb).1
  have gj0 : gi S 1 j 0 = nI j := (h.2.2.2.2.1 j hj).2.1
  have gi0 : gi S 5 i 0 = nI i := (h.2.1 i hi).2.1
  obtain ⟨k1, k2, k3, k4, k5, k6, k7⟩ := h.2.2.2.2.2.2.1
  have r1 : gi S 2 0 1 = nI (aR a) := h.2.2.2.2.2.2.2.2.2.1.trans hk.2.2.2.2.2.2.1
  have r3 : gn S 3 = aR a := h.1.2.2.2.2.2.1
  refine c_tied g7 hB g11 gj0 hj ?_
  rw [hM]
  intro S3 e3 S4 e4
  unfold wp_X4_priceAt wp_X5_sellTo
  have f4 : gj S4 4 0 1 - gj S4 4 0 2 * (gj S4 1 j 3 / (100 : Int64)) = c := by
    rw [e4, e3, ← hc]
    show gj S 4 0 1 - gj S 4 0 2 * (gj S 1 j 3 / (100 : Int64)) = _
    rw [k2, k3]; rfl
  have f5 : gi S4 1 j 0 = nI j := by rw [e4, e3]; exact gj0
  rw [f4, f5]
  intro S5 e5 S6 e6 S7 e7 S8 e8
  have f8 : S8 = sr (saleS S i j c M) 4 0 0 none := by rw [e8, e7, e6, e5, e4, e3]; rfl
  subst f8
  refine c_dropFrom (S := sr (saleS S i j c M) 4 0 0 none) g7 hB g11 ?_
  show wp_X2_add (1 : Int32) (gi (saleS S i j c M) 5 i 0) (gi (saleS S i j c M) 5 i 5) (gj (saleS S i j c M) 5 i 6) (sP (sr (saleS S i j c M) 4 0 0 none) (stopF S (aB a))) (fun S11 => post S11)
  have x0 : gi (saleS S i j c M) 5 i 0 = nI i := by
    unfold saleS
    rw [gi_sj, gi_si, if_neg (by omega), gi_sr, gi_si, if_neg (by omega), gi_si, if_neg (by omega)]; exact gi0
  have x5 : gi (saleS S i j c M) 5 i 5 = nI j := by
    unfold saleS
    rw [gi_sj, gi_si]; exact if_pos ⟨rfl, rfl, rfl⟩
  have x6 : gj (saleS S i j c M) 5 i 6 = c := by
    unfold saleS
    rw [gj_sj]; exact if_pos ⟨rfl, rfl, rfl⟩
  rw [x0, x5, x6]
  exact c_add (S := sP (sr (saleS S i j c M) 4 0 0 none) (stopF S (aB a))) r1 hR r3 hp
