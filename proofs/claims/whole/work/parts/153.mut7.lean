/-! ===== a record: the class's chain and the reference's note ===== -/
def cAddL (S : St) (n : Nat) (so lo bu : Int32) (ce : Int64) (L : Int32) : St := si (sr (si (sj (si (si (si (sn (si S 2 0 2 L) 3) 3 n 0 so) 3 n 1 lo) 3 n 2 bu) 3 n 3 ce) 3 n 4 L) 13 0 n (some n)) 2 0 1 (nI (n + 1))
def cAdd (S : St) (n : Nat) (so lo bu : Int32) (ce : Int64) : St := cAddL S n so lo bu ce (nextF (gi S 2 0 2) so lo bu ce)
def rNote (S : St) (n : Nat) (so lo bu : Int32) (ce : Int64) : St := si (si (sj (si (si (si S 34 0 n so) 35 0 n lo) 36 0 n bu) 37 0 n ce) 38 0 n (nextF (if n = 0 then 1 else gi S 38 0 (n - 1)) so lo bu ce)) 8 0 30 (nI (n + 1))
def aNoteL (a : RS) (so lo bu : Int32) (ce : Int64) (L : Int32) : RS := wi (wi (wj (wi (wi (wi a 34 (aR a) so) 35 (aR a) lo) 36 (aR a) bu) 37 (aR a) ce) 38 (aR a) L) 8 30 (nI (aR a + 1))
def aNote (a : RS) (so lo bu : Int32) (ce : Int64) : RS := aNoteL a so lo bu ce (nextF (lastA a) so lo bu ce)
theorem c_add {S : St} {n : Nat} {so lo bu : Int32} {ce : Int64} (h1 : gi S 2 0 1 = nI n) (hn : n < 240) (h3 : gn S 3 = n) {post : St → Prop} (hp : post (cAdd S n so lo bu ce)) : wp_X2_add so lo bu ce S post := by
  unfold wp_X2_add wp_X3_init wp_X3_linkOf
  rw [h1]
  refine ⟨fun c => absurd c (nI_pos (by omega)), fun _ => ⟨fun _ S4 e4 S6 e6 => ?_, fun c => absurd (nI_lt (b := 240) hn (by omega)) c⟩⟩
  have f1 : gi S4 2 0 1 = nI n := by rw [e4]; exact h1
  have f3 : gn S4 3 = n := by rw [e4]; exact h3
  have f2 : gi S6 2 0 2 = nextF (gi S 2 0 2) so lo bu ce := by rw [e6, e4]; rfl
  have f6 : gi S6 2 0 1 = nI n := by rw [e6, e4]; exact h1
  rw [f1, f2, f3]
  clear f1 f2 f3
  intro S1 e1 S2 e2 S3 e3 S5 e5 S7 e7
  have f7 : gi S7 2 0 1 = nI n := by rw [e7, e5, e3, e2, e1]; exact f6
  refine ⟨vp_in_nI (by omega) (by omega), fun S9 e9 => ?_⟩
  have f9 : gi S9 2 0 1 = nI n := by rw [e9]; exact f7
  intro S10 e10
  rw [f9, nI_1] at e10
  rw [nI_clamp (by omega)] at e9
  subst e4; subst e6; subst e1; subst e2; subst e3; subst e5; subst e7; subst e9; subst e10
  exact hp
theorem r_note {S : St} {n : Nat} {so lo bu : Int32} {ce : Int64} (h1 : gi S 8 0 30 = nI n) (hn : n < 1024) {post : St → Prop} (hp : post (rNote S n so lo bu ce)) : wp_X9_note so lo bu ce S post := by
  have hin : vp_in (nI n) 1024 := vp_in_nI (by omega) (by omega)
  unfold wp_X9_note wp_X9_next
  rw [h1, nI_clamp (by omega)]
  refine ⟨hin, fun S2 e2 => ?_⟩
  have f2 : gi S2 8 0 30 = nI n := by rw [e2]; exact h1
  rw [f2, nI_clamp (by omega)]
  refine ⟨hin, fun S4 e4 => ?_⟩
  have f4 : gi S4 8 0 30 = nI n := by rw [e4]; exact f2
  rw [f4, nI_clamp (by omega)]
  refine ⟨hin, fun S6 e6 => ?_⟩
  have f6 : gi S6 8 0 30 = nI n := by rw [e6]; exact f4
  rw [f6, nI_clamp (by omega)]
  refine ⟨hin, fun S8 e8 => ?_⟩
  have f8 : gi S8 8 0 30 = nI n := by rw [e8]; exact f6
  have g8 : ∀ y, gi S8 38 0 y = gi S 38 0 y := fun y => by rw [e8, e6, e4, e2]; rfl
  rw [f8, nI_clamp (by omega)]
  have fin : ∀ v : Int32, v = nextF (if n = 0 then 1 else gi S 38 0 (n - 1)) so lo bu ce → ∀ S13 : St, S13 = si S8 38 0 n v → ∀ S14 : St, S14 = si S13 8 0 30 ((gi S13 8 0 30) + (1 : Int32)) → post S14 := by
    intro v ev S13 e13 S14 e14
    have f13 : gi S13 8 0 30 = nI n := by rw [e13]; exact f8
    rw [f13, nI_1, e13, ev, e8, e6, e4, e2] at e14
    rw [e14]; exact hp
  refine ⟨fun c => ?_, fun c => ?_⟩
  · have hn0 : n ≠ 0 := fun z => c (by rw [z]; rfl)
    obtain ⟨m, rfl⟩ : ∃ m, n = m + 1 := ⟨n - 1, by omega⟩
    have em : nI (m + 1) - 1 = nI m := by rw [← nI_1]; grind
    rw [em, nI_clamp (by omega), g8]
    refine ⟨vp_in_nI (by omega) (by omega), hin, fun S13 e13 S14 e14 => fin _ (by rw [if_neg hn0]; rfl) S13 e13 S14 e14⟩
  · have hn0 : n = 0 := (nI_eq (b := 0) (by omega) (by omega)).mp c
    exact ⟨hin, fun S13 e13 S14 e14 => fin _ (by rw [if_pos hn0]; rfl) S13 e13 S14 e14⟩
theorem pr_note {S : St} {n : Nat} {so lo bu : Int32} {ce : Int64} (h : aR (pr S) = n) : pr (rNote S n so lo bu ce) = aNote (pr S) so lo bu ce := by
  subst h
  unfold rNote aNote aNoteL
  rw [pr_si rfl, pr_si rfl, pr_sj rfl, pr_si rfl, pr_si rfl, pr_si rfl]
  rfl
theorem pr_add {S : St} {n : Nat} {so lo bu : Int32} {ce : Int64} : pr (cAdd S n so lo bu ce) = pr S := by
  unfold cAdd cAddL
  rw [pr_siC rfl, pr_sr, pr_siC rfl, pr_sjC rfl, pr_siC rfl, pr_siC rfl, pr_siC rfl, pr_sn rfl, pr_siC rfl]
theorem cs_note {S T : St} {n : Nat} {so lo bu : Int32} {ce : Int64} (h : CS S T) : CS S (rNote T n so lo bu ce) := by
  unfold rNote
  exact CS.si (CS.si (CS.sj (CS.si (CS.si (CS.si h rfl) rfl) rfl) rfl) rfl) rfl
theorem CR.addL {S : St} {a : RS} {ob : Nat} {so lo bu : Int32} {ce : Int64} {L : Int32} (h : CR S a ob) (h30 : qi a 8 30 = nI (aR a)) (hn : aR a < 240) : CR (cAddL S (aR a) so lo bu ce L) (aNoteL a so lo bu ce L) ob := by
  obtain ⟨hCRc, hCRl, hCRt, hCRo, hCRb, hCRp, hCRk, hCRd, hCRs, hCRr⟩ := h
  have ec : (nI (aR a + 1)).toNatClampNeg = aR a + 1 := nI_clamp (by omega)
  have gn3 : gn S 3 = aR a := hCRc.2.2.2.2.2.1
  unfold cAddL aNoteL
  refine ⟨?_, ?_, ?_, ?_, ?_, ?_, ?_, ?_, ?_, ?_⟩
  · (try simp (disch := simp [nf, nk]) only [CRc_wi, CRc_wj, CRc_si, CRc_sj, CRc_sr, CRc_sn])
    unfold CRc at *
    simp [qi_wi, qi_wj, qj_wi, qj_wj, gi_si, gi_sj, gi_sr, gj_si, gj_sj, gj_sr, gr_si, gr_sj, gr_sr, gn_si, gn_sj, gn_sr, gi_sn, gj_sn, gr_sn, gn_sn, aL_wi, aL_wj, aB_wi, aB_wj, aD_wi, aD_wj, aR_wi, aR_wj, sT_wi, sT_wj, lastA_wj, lastA_wi, prevA_wj, prevA_wi, ec]
    grind
  · (simp (disch := simp [nf, nk]) only [CRl_wi, CRl_wj, CRl_si, CRl_sj, CRl_sr, CRl_sn]; exact hCRl)
  · (simp (disch := simp [nf, nk]) only [CRt_wi, CRt_wj, CRt_si, CRt_sj, CRt_sr, CRt_sn]; exact hCRt)
  · (simp (disch := simp [nf, nk]) only [CRo_wi, CRo_wj, CRo_si, CRo_sj, CRo_sr, CRo_sn]; exact hCRo)
  · (simp (disch := simp [nf, nk]) only [CRb_wi, CRb_wj, CRb_si, CRb_sj, CRb_sr, CRb_sn]; exact hCRb)
  · (simp (disch := simp [nf, nk]) only [CRp_wi, CRp_wj, CRp_si, CRp_sj, CRp_sr, CRp_sn]; exact hCRp)
  · (simp (disch := simp [nf, nk]) only [CRk_wi, CRk_wj, CRk_si, CRk_sj, CRk_sr, CRk_sn]; exact hCRk)
  · (simp (disch := simp [nf, nk]) only [CRd_wi, CRd_wj, CRd_si, CRd_sj, CRd_sr, CRd_sn]; exact hCRd)
  · (simp (disch := simp [nf, nk]) only [CRs_wi, CRs_wj, CRs_si, CRs_sj, CRs_sr, CRs_sn]; exact hCRs)
  · (try simp (disch := simp [nf, nk]) only [CRr_wi, CRr_wj, CRr_si, CRr_sj, CRr_sr, CRr_sn])
    obtain ⟨r1, r2, r3⟩ := hCRr
    refine ⟨by simp [qi_wi, qi_wj, qj_wi, qj_wj, gi_si, gi_sj, gi_sr, gj_si, gj_sj, gj_sr, gr_si, gr_sj, gr_sr, gn_si, gn_sj, gn_sr, gi_sn, gj_sn, gr_sn, gn_sn, aL_wi, aL_wj, aB_wi, aB_wj, aD_wi, aD_wj, aR_wi, aR_wj, sT_wi, sT_wj, lastA_wj, lastA_wi, prevA_wj, prevA_wi], ?_, fun r hr => ?_⟩
    · unfold lastA
      rw [show gi (si (sr (si (sj (si (si (si (sn (si S 2 0 2 L) 3) 3 (aR a) 0 so) 3 (aR a) 1 lo) 3 (aR a) 2 bu) 3 (aR a) 3 ce) 3 (aR a) 4 L) 13 0 (aR a) (some (aR a))) 2 0 1 (nI (aR a + 1))) 2 0 2 = L by simp [qi_wi, qi_wj, qj_wi, qj_wj, gi_si, gi_sj, gi_sr, gj_si, gj_sj, gj_sr, gr_si, gr_sj, gr_sr, gn_si, gn_sj, gn_sr, gi_sn, gj_sn, gr_sn, gn_sn, aL_wi, aL_wj, aB_wi, aB_wj, aD_wi, aD_wj, aR_wi, aR_wj, sT_wi, sT_wj, lastA_wj, lastA_wi, prevA_wj, prevA_wi]]
      simp [qi_wi, qi_wj, qj_wi, qj_wj, gi_si, gi_sj, gi_sr, gj_si, gj_sj, gj_sr, gr_si, gr_sj, gr_sr, gn_si, gn_sj, gn_sr, gi_sn, gj_sn, gr_sn, gn_sn, aL_wi, aL_wj, aB_wi, aB_wj, aD_wi, aD_wj, aR_wi, aR_wj, sT_wi, sT_wj, lastA_wj, lastA_wi, prevA_wj, prevA_wi, ec, r2]
    · have hr : r < aR a + 1 := (by simpa [qi_wi, qi_wj, qj_wi, qj_wj, gi_si, gi_sj, gi_sr, gj_si, gj_sj, gj_sr, gr_si, gr_sj, gr_sr, gn_si, gn_sj, gn_sr, gi_sn, gj_sn, gr_sn, gn_sn, aL_wi, aL_wj, aB_wi, aB_wj, aD_wi, aD_wj, aR_wi, aR_wj, sT_wi, sT_wj, lastA_wj, lastA_wi, prevA_wj, prevA_wi, ec] using hr)
      rcases (show r < aR a ∨ r = aR a by omega) with q | rfl
      · have ne : r ≠ aR a := (by omega)
        simp [qi_wi, qi_wj, qj_wi, qj_wj, gi_si, gi_sj, gi_sr, gj_si, gj_sj, gj_sr, gr_si, gr_sj, gr_sr, gn_si, gn_sj, gn_sr, gi_sn, gj_sn, gr_sn, gn_sn, aL_wi, aL_wj, aB_wi, aB_wj, aD_wi, aD_wj, aR_wi, aR_wj, sT_wi, sT_wj, lastA_wj, lastA_wi, prevA_wj, prevA_wi, ne, gn3]; exact r3 r q
      · simp [qi_wi, qi_wj, qj_wi, qj_wj, gi_si, gi_sj, gi_sr, gj_si, gj_sj, gj_sr, gr_si, gr_sj, gr_sr, gn_si, gn_sj, gn_sr, gi_sn, gj_sn, gr_sn, gn_sn, aL_wi, aL_wj, aB_wi, aB_wj, aD_wi, aD_wj, aR_wi, aR_wj, sT_wi, sT_wj, lastA_wj, lastA_wi, prevA_wj, prevA_wi, gn3, r2]
theorem CR.add {S : St} {a : RS} {ob : Nat} {so lo bu : Int32} {ce : Int64} (h : CR S a ob) (h30 : qi a 8 30 = nI (aR a)) (hn : aR a < 240) : CR (cAdd S (aR a) so lo bu ce) (aNote a so lo bu ce) ob := by
  have e : gi S 2 0 2 = lastA a := h.2.2.2.2.2.2.2.2.2.2.1
  unfold cAdd aNote
  rw [e]
  exact h.addL h30 hn
theorem Ok.noteL {a : RS} {so lo bu : Int32} {ce : Int64} {L : Int32} (h : Ok a) (hn : aR a < capS a (aL a)) (hL : L = nextF (lastA a) so lo bu ce) : Ok (aNoteL a so lo bu ce L) := by
  obtain ⟨hOkC, hOkL, hOkT, hOkN, hOkB, hOkP, hOkD, hOkZ, hOkR⟩ := h
  have hcap := capS_le a (aL a)
  have h60 := hOkC.2.1
  have ec : (nI (aR a + 1)).toNatClampNeg = aR a + 1 := nI_clamp (by omega)
  unfold aNoteL
  refine ⟨?_, ?_, ?_, ?_, ?_, ?_, ?_, ?_, ?_⟩
  · obtain ⟨c1, c2, c3, c4, c5, c6, c7, c8⟩ := hOkC
    exact ⟨by simpa [qi_wi, qi_wj, qj_wi, qj_wj, gi_si, gi_sj, gi_sr, gj_si, gj_sj, gj_sr, gr_si, gr_sj, gr_sr, gn_si, gn_sj, gn_sr, gi_sn, gj_sn, gr_sn, gn_sn, aL_wi, aL_wj, aB_wi, aB_wj, aD_wi, aD_wj, aR_wi, aR_wj, sT_wi, sT_wj, lastA_wj, lastA_wi, prevA_wj, prevA_wi] using c1, by simpa [qi_wi, qi_wj, qj_wi, qj_wj, gi_si, gi_sj, gi_sr, gj_si, gj_sj, gj_sr, gr_si, gr_sj, gr_sr, gn_si, gn_sj, gn_sr, gi_sn, gj_sn, gr_sn, gn_sn, aL_wi, aL_wj, aB_wi, aB_wj, aD_wi, aD_wj, aR_wi, aR_wj, sT_wi, sT_wj, lastA_wj, lastA_wi, prevA_wj, prevA_wi] using c2, by simpa [qi_wi, qi_wj, qj_wi, qj_wj, gi_si, gi_sj, gi_sr, gj_si, gj_sj, gj_sr, gr_si, gr_sj, gr_sr, gn_si, gn_sj, gn_sr, gi_sn, gj_sn, gr_sn, gn_sn, aL_wi, aL_wj, aB_wi, aB_wj, aD_wi, aD_wj, aR_wi, aR_wj, sT_wi, sT_wj, lastA_wj, lastA_wi, prevA_wj, prevA_wi] using c3, by simpa [qi_wi, qi_wj, qj_wi, qj_wj, gi_si, gi_sj, gi_sr, gj_si, gj_sj, gj_sr, gr_si, gr_sj, gr_sr, gn_si, gn_sj, gn_sr, gi_sn, gj_sn, gr_sn, gn_sn, aL_wi, aL_wj, aB_wi, aB_wj, aD_wi, aD_wj, aR_wi, aR_wj, sT_wi, sT_wj, lastA_wj, lastA_wi, prevA_wj, prevA_wi] using c4, by simpa [qi_wi, qi_wj, qj_wi, qj_wj, gi_si, gi_sj, gi_sr, gj_si, gj_sj, gj_sr, gr_si, gr_sj, gr_sr, gn_si, gn_sj, gn_sr, gi_sn, gj_sn, gr_sn, gn_sn, aL_wi, aL_wj, aB_wi, aB_wj, aD_wi, aD_wj, aR_wi, aR_wj, sT_wi, sT_wj, lastA_wj, lastA_wi, prevA_wj, prevA_wi] using c5, by simpa [qi_wi, qi_wj, qj_wi, qj_wj, gi_si, gi_sj, gi_sr, gj_si, gj_sj, gj_sr, gr_si, gr_sj, gr_sr, gn_si, gn_sj, gn_sr, gi_sn, gj_sn, gr_sn, gn_sn, aL_wi, aL_wj, aB_wi, aB_wj, aD_wi, aD_wj, aR_wi, aR_wj, sT_wi, sT_wj, lastA_wj, lastA_wi, prevA_wj, prevA_wi] using c6, by simp [qi_wi, qi_wj, qj_wi, qj_wj, gi_si, gi_sj, gi_sr, gj_si, gj_sj, gj_sr, gr_si, gr_sj, gr_sr, gn_si, gn_sj, gn_sr, gi_sn, gj_sn, gr_sn, gn_sn, aL_wi, aL_wj, aB_wi, aB_wj, aD_wi, aD_wj, aR_wi, aR_wj, sT_wi, sT_wj, lastA_wj, lastA_wi, prevA_wj, prevA_wi, ec], by simp [qi_wi, qi_wj, qj_wi, qj_wj, gi_si, gi_sj, gi_sr, gj_si, gj_sj, gj_sr, gr_si, gr_sj, gr_sr, gn_si, gn_sj, gn_sr, gi_sn, gj_sn, gr_sn, gn_sn, aL_wi, aL_wj, aB_wi, aB_wj, aD_wi, aD_wj, aR_wi, aR_wj, sT_wi, sT_wj, lastA_wj, lastA_wi, prevA_wj, prevA_wi, ec, capS_wi, capS_wj]; omega⟩
  · (simp (disch := simp [nf, nk]) only [OkL_wi, OkL_wj]; exact hOkL)
  · (simp (disch := simp [nf, nk]) only [OkT_wi, OkT_wj]; exact hOkT)
  · (simp (disch := simp [nf, nk]) only [OkN_wi, OkN_wj]; exact hOkN)
  · (simp (disch := simp [nf, nk]) only [OkB_wi, OkB_wj]; exact hOkB)
  · (simp (disch := simp [nf, nk]) only [OkP_wi, OkP_wj]; exact hOkP)
  · (simp (disch := simp [nf, nk]) only [OkD_wi, OkD_wj]; exact hOkD)
  · (simp (disch := simp [nf, nk]) only [OkZ_wi, OkZ_wj]; exact hOkZ)
  · intro r hr
    have hr : r < aR a + 1 := (by simpa [qi_wi, qi_wj, qj_wi, qj_wj, gi_si, gi_sj, gi_sr, gj_si, gj_sj, gj_sr, gr_si, gr_sj, gr_sr, gn_si, gn_sj, gn_sr, gi_sn, gj_sn, gr_sn, gn_sn, aL_wi, aL_wj, aB_wi, aB_wj, aD_wi, aD_wj, aR_wi, aR_wj, sT_wi, sT_wj, lastA_wj, lastA_wi, prevA_wj, prevA_wi, ec] using hr)
    rcases (show r < aR a ∨ r = aR a by omega) with q | rfl
    · have ne : r ≠ aR a := (by omega)
      have ne2 : r - 1 ≠ aR a := (by omega)
      have e1 : prevA (wi (wi (wj (wi (wi (wi a 34 (aR a) so) 35 (aR a) lo) 36 (aR a) bu) 37 (aR a) ce) 38 (aR a) L) 8 30 (nI (aR a + 1))) r = prevA a r := by
        unfold prevA
        split
        · rfl
        · simp [qi_wi, qi_wj, qj_wi, qj_wj, gi_si, gi_sj, gi_sr, gj_si, gj_sj, gj_sr, gr_si, gr_sj, gr_sr, gn_si, gn_sj, gn_sr, gi_sn, gj_sn, gr_sn, gn_sn, aL_wi, aL_wj, aB_wi, aB_wj, aD_wi, aD_wj, aR_wi, aR_wj, sT_wi, sT_wj, lastA_wj, lastA_wi, prevA_wj, prevA_wi, ne2]
      have e2 : qi (wi (wi (wj (wi (wi (wi a 34 (aR a) so) 35 (aR a) lo) 36 (aR a) bu) 37 (aR a) ce) 38 (aR a) L) 8 30 (nI (aR a + 1))) 34 r = qi a 34 r := by simp [qi_wi, qi_wj, qj_wi, qj_wj, gi_si, gi_sj, gi_sr, gj_si, gj_sj, gj_sr, gr_si, gr_sj, gr_sr, gn_si, gn_sj, gn_sr, gi_sn, gj_sn, gr_sn, gn_sn, aL_wi, aL_wj, aB_wi, aB_wj, aD_wi, aD_wj, aR_wi, aR_wj, sT_wi, sT_wj, lastA_wj, lastA_wi, prevA_wj, prevA_wi, ne]
      have e3 : qi (wi (wi (wj (wi (wi (wi a 34 (aR a) so) 35 (aR a) lo) 36 (aR a) bu) 37 (aR a) ce) 38 (aR a) L) 8 30 (nI (aR a + 1))) 35 r = qi a 35 r := by simp [qi_wi, qi_wj, qj_wi, qj_wj, gi_si, gi_sj, gi_sr, gj_si, gj_sj, gj_sr, gr_si, gr_sj, gr_sr, gn_si, gn_sj, gn_sr, gi_sn, gj_sn, gr_sn, gn_sn, aL_wi, aL_wj, aB_wi, aB_wj, aD_wi, aD_wj, aR_wi, aR_wj, sT_wi, sT_wj, lastA_wj, lastA_wi, prevA_wj, prevA_wi, ne]
      have e4 : qi (wi (wi (wj (wi (wi (wi a 34 (aR a) so) 35 (aR a) lo) 36 (aR a) bu) 37 (aR a) ce) 38 (aR a) L) 8 30 (nI (aR a + 1))) 36 r = qi a 36 r := by simp [qi_wi, qi_wj, qj_wi, qj_wj, gi_si, gi_sj, gi_sr, gj_si, gj_sj, gj_sr, gr_si, gr_sj, gr_sr, gn_si, gn_sj, gn_sr, gi_sn, gj_sn, gr_sn, gn_sn, aL_wi, aL_wj, aB_wi, aB_wj, aD_wi, aD_wj, aR_wi, aR_wj, sT_wi, sT_wj, lastA_wj, lastA_wi, prevA_wj, prevA_wi, ne]
      have e5 : qj (wi (wi (wj (wi (wi (wi a 34 (aR a) so) 35 (aR a) lo) 36 (aR a) bu) 37 (aR a) ce) 38 (aR a) L) 8 30 (nI (aR a + 1))) 37 r = qj a 37 r := by simp [qi_wi, qi_wj, qj_wi, qj_wj, gi_si, gi_sj, gi_sr, gj_si, gj_sj, gj_sr, gr_si, gr_sj, gr_sr, gn_si, gn_sj, gn_sr, gi_sn, gj_sn, gr_sn, gn_sn, aL_wi, aL_wj, aB_wi, aB_wj, aD_wi, aD_wj, aR_wi, aR_wj, sT_wi, sT_wj, lastA_wj, lastA_wi, prevA_wj, prevA_wi, ne]
      have e6 : qi (wi (wi (wj (wi (wi (wi a 34 (aR a) so) 35 (aR a) lo) 36 (aR a) bu) 37 (aR a) ce) 38 (aR a) L) 8 30 (nI (aR a + 1))) 38 r = qi a 38 r := by simp [qi_wi, qi_wj, qj_wi, qj_wj, gi_si, gi_sj, gi_sr, gj_si, gj_sj, gj_sr, gr_si, gr_sj, gr_sr, gn_si, gn_sj, gn_sr, gi_sn, gj_sn, gr_sn, gn_sn, aL_wi, aL_wj, aB_wi, aB_wj, aD_wi, aD_wj, aR_wi, aR_wj, sT_wi, sT_wj, lastA_wj, lastA_wi, prevA_wj, prevA_wi, ne]
      rw [e1, e2, e3, e4, e5, e6]
      exact hOkR r q
    · have e1 : prevA (wi (wi (wj (wi (wi (wi a 34 (aR a) so) 35 (aR a) lo) 36 (aR a) bu) 37 (aR a) ce) 38 (aR a) L) 8 30 (nI (aR a + 1))) (aR a) = lastA a := by
        unfold prevA lastA
        by_cases z : aR a = 0
        · rw [if_pos z, if_pos z]
        · have ne2 : aR a - 1 ≠ aR a := (by omega)
          rw [if_neg z, if_neg z]
          simp [qi_wi, qi_wj, qj_wi, qj_wj, gi_si, gi_sj, gi_sr, gj_si, gj_sj, gj_sr, gr_si, gr_sj, gr_sr, gn_si, gn_sj, gn_sr, gi_sn, gj_sn, gr_sn, gn_sn, aL_wi, aL_wj, aB_wi, aB_wj, aD_wi, aD_wj, aR_wi, aR_wj, sT_wi, sT_wj, lastA_wj, lastA_wi, prevA_wj, prevA_wi, ne2]
      have e2 : qi (wi (wi (wj (wi (wi (wi a 34 (aR a) so) 35 (aR a) lo) 36 (aR a) bu) 37 (aR a) ce) 38 (aR a) L) 8 30 (nI (aR a + 1))) 34 (aR a) = so := by simp [qi_wi, qi_wj, qj_wi, qj_wj, gi_si, gi_sj, gi_sr, gj_si, gj_sj, gj_sr, gr_si, gr_sj, gr_sr, gn_si, gn_sj, gn_sr, gi_sn, gj_sn, gr_sn, gn_sn, aL_wi, aL_wj, aB_wi, aB_wj, aD_wi, aD_wj, aR_wi, aR_wj, sT_wi, sT_wj, lastA_wj, lastA_wi, prevA_wj, prevA_wi]
      have e3 : qi (wi (wi (wj (wi (wi (wi a 34 (aR a) so) 35 (aR a) lo) 36 (aR a) bu) 37 (aR a) ce) 38 (aR a) L) 8 30 (nI (aR a + 1))) 35 (aR a) = lo := by simp [qi_wi, qi_wj, qj_wi, qj_wj, gi_si, gi_sj, gi_sr, gj_si, gj_sj, gj_sr, gr_si, gr_sj, gr_sr, gn_si, gn_sj, gn_sr, gi_sn, gj_sn, gr_sn, gn_sn, aL_wi, aL_wj, aB_wi, aB_wj, aD_wi, aD_wj, aR_wi, aR_wj, sT_wi, sT_wj, lastA_wj, lastA_wi, prevA_wj, prevA_wi]
      have e4 : qi (wi (wi (wj (wi (wi (wi a 34 (aR a) so) 35 (aR a) lo) 36 (aR a) bu) 37 (aR a) ce) 38 (aR a) L) 8 30 (nI (aR a + 1))) 36 (aR a) = bu := by simp [qi_wi, qi_wj, qj_wi, qj_wj, gi_si, gi_sj, gi_sr, gj_si, gj_sj, gj_sr, gr_si, gr_sj, gr_sr, gn_si, gn_sj, gn_sr, gi_sn, gj_sn, gr_sn, gn_sn, aL_wi, aL_wj, aB_wi, aB_wj, aD_wi, aD_wj, aR_wi, aR_wj, sT_wi, sT_wj, lastA_wj, lastA_wi, prevA_wj, prevA_wi]
      have e5 : qj (wi (wi (wj (wi (wi (wi a 34 (aR a) so) 35 (aR a) lo) 36 (aR a) bu) 37 (aR a) ce) 38 (aR a) L) 8 30 (nI (aR a + 1))) 37 (aR a) = ce := by simp [qi_wi, qi_wj, qj_wi, qj_wj, gi_si, gi_sj, gi_sr, gj_si, gj_sj, gj_sr, gr_si, gr_sj, gr_sr, gn_si, gn_sj, gn_sr, gi_sn, gj_sn, gr_sn, gn_sn, aL_wi, aL_wj, aB_wi, aB_wj, aD_wi, aD_wj, aR_wi, aR_wj, sT_wi, sT_wj, lastA_wj, lastA_wi, prevA_wj, prevA_wi]
      have e6 : qi (wi (wi (wj (wi (wi (wi a 34 (aR a) so) 35 (aR a) lo) 36 (aR a) bu) 37 (aR a) ce) 38 (aR a) L) 8 30 (nI (aR a + 1))) 38 (aR a) = L := by simp [qi_wi, qi_wj, qj_wi, qj_wj, gi_si, gi_sj, gi_sr, gj_si, gj_sj, gj_sr, gr_si, gr_sj, gr_sr, gn_si, gn_sj, gn_sr, gi_sn, gj_sn, gr_sn, gn_sn, aL_wi, aL_wj, aB_wi, aB_wj, aD_wi, aD_wj, aR_wi, aR_wj, sT_wi, sT_wj, lastA_wj, lastA_wi, prevA_wj, prevA_wi]
      rw [e1, e2, e3, e4, e5, e6]
      exact hL
theorem Ok.note {a : RS} {so lo bu : Int32} {ce : Int64} (h : Ok a) (hn : aR a < capS a (aL a)) : Ok (aNote a so lo bu ce) := h.noteL hn rfl
