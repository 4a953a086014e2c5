/-! ===== the clock begins and ends ===== -/
def clkS (S : St) (lo : Option Nat) (f s e t : Int64) (st : Int32) : St := si (sj (sj (sj (sj (sr S 4 0 0 lo) 4 0 1 f) 4 0 2 s) 4 0 3 e) 4 0 4 t) 4 0 5 st
def clkA (a : RS) (l : Int32) (t e f s : Int64) (st : Int32) : RS := wi (wi (wj (wj (wj (wj a 8 18 t) 8 19 e) 8 20 f) 8 21 s) 8 17 l) 8 22 st
theorem qi_clkA (a : RS) (l : Int32) (t e f s : Int64) (st : Int32) {k x : Nat} (h : k ≠ 8 ∨ (x ≠ 17 ∧ x ≠ 22)) : qi (clkA a l t e f s st) k x = qi a k x := by
  unfold clkA
  rw [qi_wi, if_neg (by omega), qi_wi, if_neg (by omega)]; rfl
theorem qj_clkA (a : RS) (l : Int32) (t e f s : Int64) (st : Int32) {k x : Nat} (h : k ≠ 8 ∨ (x < 18 ∨ 21 < x)) : qj (clkA a l t e f s st) k x = qj a k x := by
  unfold clkA
  rw [qj_wi, qj_wi, qj_wj, if_neg (by omega), qj_wj, if_neg (by omega), qj_wj, if_neg (by omega), qj_wj, if_neg (by omega)]
theorem CR.clk {S : St} {a : RS} {ob : Nat} {lo : Option Nat} {l : Int32} {f s e t : Int64} {st : Int32} (h : CR S a ob) (hl : lo = if l = -1 then none else some l.toNatClampNeg) (hp : ∀ b, b < aB a → gj S 1 b 3 = if l = -1 then -1 else qj a 30 b) : CR (clkS S lo f s e t st) (clkA a l t e f s st) ob := by
  obtain ⟨hCRc, hCRl, hCRt, hCRo, hCRb, hCRp, hCRk, hCRd, hCRs, hCRr⟩ := h
  unfold clkS clkA
  refine ⟨?_, ?_, ?_, ?_, ?_, ?_, ?_, ?_, ?_, ?_⟩
  · (simp (disch := simp [nf, nk]) only [CRc_wi, CRc_wj, CRc_si, CRc_sj, CRc_sr]; exact hCRc)
  · (simp (disch := simp [nf, nk]) only [CRl_wi, CRl_wj, CRl_si, CRl_sj, CRl_sr]; exact hCRl)
  · (simp (disch := simp [nf, nk]) only [CRt_wi, CRt_wj, CRt_si, CRt_sj, CRt_sr]; exact hCRt)
  · (simp (disch := simp [nf, nk]) only [CRo_wi, CRo_wj, CRo_si, CRo_sj, CRo_sr]; exact hCRo)
  · (simp (disch := simp [nf, nk]) only [CRb_wi, CRb_wj, CRb_si, CRb_sj, CRb_sr]; exact hCRb)
  · exact hp
  · exact ⟨hl, rfl, rfl, rfl, rfl, rfl, hCRk.2.2.2.2.2.2⟩
  · (simp (disch := simp [nf, nk]) only [CRd_wi, CRd_wj, CRd_si, CRd_sj, CRd_sr]; exact hCRd)
  · (simp (disch := simp [nf, nk]) only [CRs_wi, CRs_wj, CRs_si, CRs_sj, CRs_sr]; exact hCRs)
  · (simp (disch := simp [nf, nk]) only [CRr_wi, CRr_wj, CRr_si, CRr_sj, CRr_sr]; exact hCRr)
theorem Ok.clk {a : RS} {l : Int32} {f s e t : Int64} {st : Int32} (h : Ok a) (hs : st = 0 ∨ st = 1)
    (hn : l = -1 ∨ ∃ i, i < aL a ∧ l = nI i ∧ sT a i = 1 ∧ 0 ≤ t.toInt ∧ t.toInt ≤ e.toInt ∧ e.toInt ≤ 10000000 ∧ f.toInt ≤ 1000000000 ∧ 1 ≤ s.toInt ∧ s.toInt ≤ 1000000 ∧ (∀ t : Int, 0 ≤ t → t < e.toInt → s.toInt * (t / 100) ≤ f.toInt))
    (hp : l ≠ -1 → ∀ b, b < aB a → qj a 30 b = -1 ∨ (0 ≤ (qj a 30 b).toInt ∧ (qj a 30 b).toInt < e.toInt)) : Ok (clkA a l t e f s st) := by
  obtain ⟨hOkC, hOkL, hOkT, hOkN, hOkB, hOkP, hOkD, hOkZ, hOkR⟩ := h
  unfold clkA
  refine ⟨?_, ?_, ?_, ?_, ?_, ?_, ?_, ?_, ?_⟩
  · (simp (disch := simp [nf, nk]) only [OkC_wi, OkC_wj]; exact hOkC)
  · (simp (disch := simp [nf, nk]) only [OkL_wi, OkL_wj]; exact hOkL)
  · (simp (disch := simp [nf, nk]) only [OkT_wi, OkT_wj]; exact hOkT)
  · exact ⟨hs, hOkN.2.1, hn⟩
  · (simp (disch := simp [nf, nk]) only [OkB_wi, OkB_wj]; exact hOkB)
  · exact hp
  · (simp (disch := simp [nf, nk]) only [OkD_wi, OkD_wj]; exact hOkD)
  · (simp (disch := simp [nf, nk]) only [OkZ_wi, OkZ_wj]; exact hOkZ)
  · (simp (disch := simp [nf, nk]) only [OkR_wi, OkR_wj]; exact hOkR)
theorem start_le {q s t drop f : Int} (hq : s * q ≤ drop) (hd : drop ≤ f) (hs : 1 ≤ s) (ht : t < (q + 1) * 100) : s * (t / 100) ≤ f := by
  have h1 : t / 100 ≤ q := by omega
  have := Int.mul_le_mul_of_nonneg_left h1 (show 0 ≤ s by omega)
  omega
theorem s_start (p : Int32) (f s : Int64) {a : RS} (hk : Ok a) : Sim (wp_X8_start p f s) (wp_X9_start p f s) a := by
  have hL := hk.1.2.1
  have hB := hk.1.2.2.2.1
  rcases ix_or p (aL a) (by omega) with ⟨i, hi, rfl⟩ | hn
  · have ini : vp_in (nI i) 60 := vp_in_nI (by omega) (by omega)
    have e0 := st_eq (k := 0) hk.2.1 hi (by omega)
    by_cases hs : sT a i = 0 ∧ qi a 8 17 = -1
    · obtain ⟨hs, hn⟩ := hs
      have okl := hk.2.1 i hi
      by_cases hw : (qj a 19 i ≤ f ∧ f ≤ (1000000000 : Int64)) ∧ ((1 : Int64) ≤ s ∧ s ≤ (1000000 : Int64))
      · obtain ⟨⟨b1, b2⟩, b3, b4⟩ := hw
        have c1 : (qj a 19 i).toInt ≤ f.toInt := j_le.mp b1
        have c2 : f.toInt ≤ 1000000000 := j_le.mp b2
        have c3 : 1 ≤ s.toInt := j_le.mp b3
        have c4 : s.toInt ≤ 1000000 := j_le.mp b4
        have ed : (f - qj a 19 i).toInt = f.toInt - (qj a 19 i).toInt := j_sub (by omega) (by omega)
        have eq : ((f - qj a 19 i) / s).toInt = (f.toInt - (qj a 19 i).toInt) / s.toInt := by
          rw [← ed]; exact j_div (by omega) (by omega)
        have q0 : 0 ≤ (f.toInt - (qj a 19 i).toInt) / s.toInt := Int.ediv_nonneg (by omega) (by omega)
        have q1 : (f.toInt - (qj a 19 i).toInt) / s.toInt ≤ f.toInt - (qj a 19 i).toInt := Int.ediv_le_self _ (by omega)
        have qm : s.toInt * ((f.toInt - (qj a 19 i).toInt) / s.toInt) ≤ f.toInt - (qj a 19 i).toInt := Int.mul_ediv_self_le (by omega)
        have ep : ((f - qj a 19 i) / s + (1 : Int64)).toInt = (f.toInt - (qj a 19 i).toInt) / s.toInt + 1 := by
          rw [← eq]; exact j_add (y := 1) (by rw [show (1 : Int64).toInt = 1 from rfl]; omega) (by rw [show (1 : Int64).toInt = 1 from rfl]; omega)
        have em : (((f - qj a 19 i) / s + (1 : Int64)) * (100 : Int64)).toInt = ((f.toInt - (qj a 19 i).toInt) / s.toInt + 1) * 100 := by
          rw [← ep]; exact j_mul (y := 100) (by rw [show (100 : Int64).toInt = 100 from rfl]; omega) (by rw [show (100 : Int64).toInt = 100 from rfl]; omega)
        have ec : (100 : Int64) * ((f - qj a 19 i) / s + (1 : Int64)) = ((f - qj a 19 i) / s + (1 : Int64)) * (100 : Int64) := Int64.mul_comm _ _
        generalize hE : ((f - qj a 19 i) / s + (1 : Int64)) * (100 : Int64) = e at em ec
        generalize (f.toInt - (qj a 19 i).toInt) / s.toInt = q at *
        have s0 : ¬ s = 0 := fun z => by rw [z] at c3; exact absurd c3 (by decide)
        have walk8 : ∀ S ob, CR S a ob → ∀ post : Int32 → St → Prop, (e ≤ (10000000 : Int64) → post e.toInt32 (sr (clkS S (some i) f s e 0 0) 5 i 4 (some 1))) → (¬ e ≤ (10000000 : Int64) → post (-1) S) → wp_X8_start (nI i) f s S post := by
          intro S ob h post f1 f2
          obtain ⟨-, -, -, -, er, est, -⟩ := h.2.1 i hi
          have k1 := h.2.2.2.2.2.2.1.1
          rw [if_pos hn] at k1
          refine c_lotAtI h hk.1 hi ⟨fun c => (by cases c), fun j e => ?_⟩
          cases e
          rw [est, hs, er]
          refine ⟨fun c => absurd rfl c, fun _ => ⟨fun _ => ?_, fun j e => by rw [k1] at e; cases e⟩⟩
          refine c_isWithin (fun _ _ => ⟨fun c => absurd c (by decide), fun _ => c_isWithin (fun _ _ => ⟨fun _ => ?_, fun c => absurd c (by decide)⟩) (fun c => absurd c (fun q => q.elim (Int64.not_lt.mpr b3) (Int64.not_lt.mpr b4)))⟩) (fun c => absurd c (fun q => q.elim (Int64.not_lt.mpr b1) (Int64.not_lt.mpr b2)))
          rw [er]
          refine ⟨fun _ => ⟨s0, ?_⟩, fun c => absurd ((j_lt (x := 0) (y := s)).mpr (by rw [show (0 : Int64).toInt = 0 from rfl]; omega)) c⟩
          rw [hE]
          refine ⟨fun c => ?_, f2⟩
          intro S1 e1 S2 e2 S3 e3 S4 e4 S5 e5 S6 e6 S15 e15
          rw [e15, e6, e5, e4, e3, e2, e1]
          exact f1 c
        have walk9 : ∀ S, pr S = a → ∀ post : Int32 → St → Prop, (e ≤ (10000000 : Int64) → post e.toInt32 (sQ (si (sj (sj (sj (sj (si (si S 8 0 17 (nI i)) 20 0 i 1) 8 0 18 0) 8 0 19 e) 8 0 20 f) 8 0 21 s) 8 0 22 0) (dropF (fun b => qj a 30 b) (fun _ => True) 30))) → (¬ e ≤ (10000000 : Int64) → post (-1) S) → wp_X9_start (nI i) f s S post := by
          intro S hS post f1 f2
          subst hS
          have g20 : gi S 20 0 i = 0 := (gi_pr rfl).trans (e0.mpr hs)
          have g17 : gi S 8 0 17 = -1 := (gi_pr rfl).trans hn
          have g19 : gj S 19 0 i = qj (pr S) 19 i := gj_pr rfl
          refine r_isLotI hk.1 hi ⟨fun c => absurd c (by decide), fun _ => ⟨ini, ?_⟩⟩
          rw [nI_clamp (by omega), g20, g17, g19]
          refine ⟨fun c => absurd rfl c, fun _ => ⟨fun c => absurd rfl c, fun _ => ⟨ini, fun c => absurd c (Int64.not_lt.mpr b1), fun _ => ⟨fun c => absurd c (Int64.not_lt.mpr b2), fun _ => ⟨fun c => absurd c (Int64.not_lt.mpr b3), fun _ => ⟨fun _ => ⟨ini, s0, fun v ev => ?_⟩, fun c => absurd b4 c⟩⟩⟩⟩⟩⟩
          rw [ec] at ev
          subst ev
          refine ⟨fun c S7 e7 => ⟨ini, fun S9 e9 S10 e10 S11 e11 S12 e12 S13 e13 S14 e14 => ?_⟩, f2⟩
          rw [e14, e13, e12, e11, e10, e9, e7]
          refine r_startLoop ?_
          have ef : (fun b => gj (si (sj (sj (sj (sj (si (si S 8 0 17 (nI i)) 20 0 i 1) 8 0 18 0) 8 0 19 v) 8 0 20 f) 8 0 21 s) 8 0 22 0) 30 0 b) = fun b => qj (pr S) 30 b := funext (fun b => gj_pr (S := S) (k := 30) (f := b) rfl)
          rw [ef]
          exact f1 c
        by_cases hE2 : e ≤ (10000000 : Int64)
        · have e2 : e.toInt ≤ 10000000 := j_le.mp hE2
          have hg : ∀ b, b < aB a → dropF (fun b => qj a 30 b) (fun _ => True) 30 b = -1 := fun b hb => dropF_in _ _ (by omega) trivial
          generalize dropF (fun b => qj a 30 b) (fun _ => True) 30 = g at walk9 hg
          have ok1 : Ok (wi (wP a g) 20 i 1) := by
            refine Ok.lot (hk.P (fun c => absurd hn c)) hi (SA.i SA.rf (by omega)) (fun c => ?_) ?_ ?_ ?_ ?_ ?_
            · exact absurd (hn.symm.trans c) (fun z => by have := congrArg Int32.toInt z; rw [nI_toInt (by omega)] at this; exact absurd this (by rw [show (-1 : Int32).toInt = -1 from rfl]; omega))
            · have es : sT (wi (wP a g) 20 i 1) i = 1 := by rw [sT_wi, if_pos ⟨rfl, rfl⟩]; rfl
              rw [es]
              exact ⟨by rw [qi_wi, if_pos ⟨rfl, rfl⟩]; rfl, by omega, okl.2.2⟩
            · have es : sT (wi (wP a g) 20 i 1) i = 1 := by rw [sT_wi, if_pos ⟨rfl, rfl⟩]; rfl
              rw [es]
              refine ⟨fun c => absurd c (by omega), fun c => ?_⟩
              have := ((hk.2.2.1 i hi).2 c).1
              omega
            · have es : sT (wi (wP a g) 20 i 1) i = 1 := by rw [sT_wi, if_pos ⟨rfl, rfl⟩]; rfl
              rw [es]
              exact fun c => absurd c (by omega)
            · intro b hb
              have es : sT (wi (wP a g) 20 i 1) i = 1 := by rw [sT_wi, if_pos ⟨rfl, rfl⟩]; rfl
              rw [hvZ_off (a := wP a g) (by show ¬ (sT a i = 3 ∨ sT a i = 2); omega), hvZ_off (a := wi (wP a g) 20 i 1) (by rw [es]; omega), heldZ_wP]
              have := (hk.2.2.2.2.1 b hb).2.2.2.2
              show heldZ a b (aL a) - 0 + 0 ≤ (qj a 28 b).toInt
              omega
            · have es : sT (wi (wP a g) 20 i 1) i = 1 := by rw [sT_wi, if_pos ⟨rfl, rfl⟩]; rfl
              have es0 : sT (wP a g) i = 0 := hs
              unfold capA
              rw [es, es0]
              exact Nat.le_refl _
          have eA : wP (wi (wj (wj (wj (wj (wi (wi a 8 17 (nI i)) 20 i 1) 8 18 0) 8 19 e) 8 20 f) 8 21 s) 8 22 0) g = clkA (wi (wP a g) 20 i 1) (nI i) 0 e f s 0 := by
            rw [wP_wi, wP_wj (by decide), wP_wj (by decide), wP_wj (by decide), wP_wj (by decide), wP_wi, wP_wi]
            unfold clkA
            rw [wi_comm (k := 8) (f := 17) (k2 := 20) (f2 := i) (by omega)]
            rfl
          refine ⟨e.toInt32, clkA (wi (wP a g) 20 i 1) (nI i) 0 e f s 0, Ok.clk ok1 (Or.inl rfl) (Or.inr ⟨i, hi, rfl, ?_, ?_, ?_, e2, c2, c3, c4, ?_⟩) (fun _ b hb => Or.inl (hg b hb)), fun S ob h => ?_, fun S hS => ?_⟩
          · rw [sT_wi, if_pos ⟨rfl, rfl⟩]; rfl
          · exact Int.le_refl _
          · show (0 : Int) ≤ _; omega
          · intro t t0 t1
            exact start_le qm (by omega) c3 (by omega)
          · refine ⟨sr (clkS S (some i) f s e 0 0) 5 i 4 (some 1), fun post hp => walk8 S ob h post (fun _ => hp) (fun c => absurd hE2 c), ?_, ?_⟩
            · have h1 : CR S (wP a g) ob := by
                have := h.P (f := fun b => gj S 1 b 3) (g := g) (fun b hb => by rw [if_pos hn]; exact (h.2.2.2.2.2.1 b hb).trans (if_pos hn))
                rw [sP_id] at this
                exact this
              have ne : ¬ nI i = -1 := fun z => by have := congrArg Int32.toInt z; rw [nI_toInt (by omega)] at this; exact absurd this (by rw [show (-1 : Int32).toInt = -1 from rfl]; omega)
              have h2 : CR (clkS S (some i) f s e 0 0) (clkA (wP a g) (nI i) 0 e f s 0) ob := h1.clk (by rw [if_neg ne, nI_clamp (by omega)]) (fun b hb => by
                rw [if_neg ne]
                have := (h.2.2.2.2.2.1 b hb).trans (if_pos hn)
                rw [this]; exact (hg b hb).symm)
              have eA2 : clkA (wi (wP a g) 20 i 1) (nI i) 0 e f s 0 = wi (clkA (wP a g) (nI i) 0 e f s 0) 20 i 1 := by
                unfold clkA
                rw [wi_comm (k := 8) (f := 22) (k2 := 20) (f2 := i) (by omega), wi_comm (k := 8) (f := 17) (k2 := 20) (f2 := i) (by omega)]
                rfl
              rw [eA2]
              have row := h2.2.1 i hi
              refine CR.lot h2 (SB.r SB.rf) (SA.i SA.rf (by omega)) ?_ ?_ ?_
              · have es : sT (wi (clkA (wP a g) (nI i) 0 e f s 0) 20 i 1) i = 1 := by rw [sT_wi, if_pos ⟨rfl, rfl⟩]; rfl
                rw [es]
                exact ⟨row.2.1, row.2.2.1, row.2.2.2.1, row.2.2.2.2.1, by rw [gr_sr]; exact if_pos ⟨rfl, rfl, rfl⟩, row.2.2.2.2.2.2⟩
              · have es : sT (wi (clkA (wP a g) (nI i) 0 e f s 0) 20 i 1) i = 1 := by rw [sT_wi, if_pos ⟨rfl, rfl⟩]; rfl
                rw [es]
                exact fun c => absurd c (by omega)
              · have es : sT (wi (clkA (wP a g) (nI i) 0 e f s 0) 20 i 1) i = 1 := by rw [sT_wi, if_pos ⟨rfl, rfl⟩]; rfl
                rw [es]
                exact fun c => absurd c (by omega)
            · refine ⟨?_, rfl⟩
              unfold clkS
              rw [pr_sr, pr_siC rfl, pr_sjC rfl, pr_sjC rfl, pr_sjC rfl, pr_sjC rfl, pr_sr]
          · refine ⟨_, fun post hp => walk9 S hS post (fun _ => hp) (fun c => absurd hE2 c), ?_, cs_sQ _ (CS.si (CS.sj (CS.sj (CS.sj (CS.sj (CS.si (CS.si CS.rf rfl) rfl) rfl) rfl) rfl) rfl) rfl)⟩
            rw [pr_sQ, pr_si rfl, pr_sj rfl, pr_sj rfl, pr_sj rfl, pr_sj rfl, pr_si rfl, pr_si rfl, hS, eA]
        · exact ⟨-1, a, hk, ClR.ro (fun S ob h post hp => walk8 S ob h post (fun c => absurd c hE2) (fun _ => hp)), RfR.ro (fun S hS post hp => walk9 S hS post (fun c => absurd c hE2) (fun _ => hp))⟩
      · refine ⟨-1, a, hk, ClR.ro (fun S ob h post hp => ?_), RfR.ro (fun S hS post hp => ?_)⟩
        · obtain ⟨-, -, -, -, er, est, -⟩ := h.2.1 i hi
          have k1 := h.2.2.2.2.2.2.1.1
          rw [if_pos hn] at k1
          refine c_lotAtI h hk.1 hi ⟨fun c => (by cases c), fun j e => ?_⟩
          cases e
          rw [est, hs, er]
          refine ⟨fun c => absurd rfl c, fun _ => ⟨fun _ => ?_, fun j e => by rw [k1] at e; cases e⟩⟩
          exact c_isWithin (fun b1 b2 => ⟨fun c => absurd c (by decide), fun _ => c_isWithin (fun b3 b4 => absurd ⟨⟨b1, b2⟩, b3, b4⟩ hw) (fun _ => ⟨fun c => absurd rfl c, fun _ => hp⟩)⟩) (fun _ => ⟨fun _ => hp, fun c => absurd rfl c⟩)
        · subst hS
          have g19 : gj S 19 0 i = qj (pr S) 19 i := gj_pr rfl
          refine r_isLotI hk.1 hi ⟨fun c => absurd c (by decide), fun _ => ⟨ini, ?_⟩⟩
          rw [nI_clamp (by omega), g19]
          exact ⟨fun _ => hp, fun _ => ⟨fun _ => hp, fun _ => ⟨ini, fun _ => hp, fun b1 => ⟨fun _ => hp, fun b2 => ⟨fun _ => hp, fun b3 => ⟨fun b4 => absurd ⟨⟨Int64.not_lt.mp b1, Int64.not_lt.mp b2⟩, Int64.not_lt.mp b3, b4⟩ hw, fun _ => hp⟩⟩⟩⟩⟩⟩
    · refine ⟨-1, a, hk, ClR.ro (fun S ob h post hp => ?_), RfR.ro (fun S hS post hp => ?_)⟩
      · obtain ⟨-, -, -, -, er, est, -⟩ := h.2.1 i hi
        have k1 := h.2.2.2.2.2.2.1.1
        refine c_lotAtI h hk.1 hi ⟨fun c => (by cases c), fun j e => ?_⟩
        cases e
        rw [est, k1]
        refine ⟨fun _ => hp, fun c => ⟨fun c2 => ?_, fun _ _ => hp⟩⟩
        by_cases hn : qi a 8 17 = -1
        · exact absurd ⟨Option.some.inj c, hn⟩ hs
        · rw [if_neg hn] at c2; cases c2
      · subst hS
        have g20 : gi S 20 0 i = qi (pr S) 20 i := gi_pr rfl
        have g17 : gi S 8 0 17 = qi (pr S) 8 17 := gi_pr rfl
        refine r_isLotI hk.1 hi ⟨fun c => absurd c (by decide), fun _ => ⟨ini, ?_⟩⟩
        rw [nI_clamp (by omega), g20, g17]
        exact ⟨fun _ => hp, fun c => ⟨fun _ => hp, fun c2 => absurd ⟨e0.mp c, c2⟩ hs⟩⟩
  · refine ⟨-1, a, hk, ClR.ro (fun S ob h post hp => ?_), RfR.ro (fun S hS post hp => ?_)⟩
    · refine c_lotAtN h hk.1 hn ?_
      exact ⟨fun _ => hp, fun j e => (by cases e)⟩
    · subst hS
      refine r_isLotN hk.1 hn ?_
      exact ⟨fun _ => hp, fun c => absurd rfl c⟩
