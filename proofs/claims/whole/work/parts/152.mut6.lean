theorem j_sub {x y : Int64} (h0 : -9223372036854775808 ≤ x.toInt - y.toInt) (h1 : x.toInt - y.toInt ≤ 9223372036854775807) : (x - y).toInt = x.toInt - y.toInt := by
  rw [Int64.toInt_sub, Int.bmod_eq_of_le (by omega) (by omega)]
theorem j_add {x y : Int64} (h0 : -9223372036854775808 ≤ x.toInt + y.toInt) (h1 : x.toInt + y.toInt ≤ 9223372036854775807) : (x + y).toInt = x.toInt + y.toInt := by
  rw [Int64.toInt_add, Int.bmod_eq_of_le (by omega) (by omega)]
theorem j_mul {x y : Int64} (h0 : -9223372036854775808 ≤ x.toInt * y.toInt) (h1 : x.toInt * y.toInt ≤ 9223372036854775807) : (x * y).toInt = x.toInt * y.toInt := by
  rw [Int64.toInt_mul, Int.bmod_eq_of_le (by omega) (by omega)]
theorem j_le {x y : Int64} : x ≤ y ↔ x.toInt ≤ y.toInt := Int64.le_iff_toInt_le
theorem j_lt {x y : Int64} : x < y ↔ x.toInt < y.toInt := Int64.lt_iff_toInt_lt
theorem j_inj {x y : Int64} : x.toInt = y.toInt ↔ x = y := Int64.toInt_inj
theorem b_press {S : St} (hI : Inv S) (p : Int32) (w : Int64) : Both (wp_X8_press p w) (wp_X9_press p w) S := by
  obtain ⟨ob, h, hk⟩ := id hI
  have hB := hk.1.2.2.2.1
  obtain ⟨k1, k2, k3, k4, k5, k6, k7⟩ := h.2.2.2.2.2.2.1
  have g17 : gi S 8 0 17 = qi (pr S) 8 17 := gi_pr rfl
  have g22 : gi S 8 0 22 = qi (pr S) 8 22 := gi_pr rfl
  have g19 : gj S 8 0 19 = qj (pr S) 8 19 := gj_pr rfl
  rcases ix_or p (aB (pr S)) (by omega) with ⟨b, hb, rfl⟩ | hn
  · have inb : vp_in (nI b) 30 := vp_in_nI (by omega) (by omega)
    have g29 : gj S 29 0 b = qj (pr S) 29 b := gj_pr rfl
    have g30 : gj S 30 0 b = qj (pr S) 30 b := gj_pr rfl
    obtain ⟨-, -, cb1, cb2⟩ := h.2.2.2.2.1 b hb
    by_cases hc : qi (pr S) 8 17 = -1
    · refine Both.ro hI 0 (fun post hp => ?_) (fun post hp => ?_)
      · refine c_buyerAtI h hk.1 hb ⟨fun c => (by cases c), fun j e => ?_⟩
        rw [k1, if_pos hc]
        exact ⟨fun _ => hp, fun j e => (by cases e)⟩
      · refine r_isBuyerI hk.1 hb ⟨fun c => absurd c (by decide), fun _ => ?_⟩
        rw [g17]
        exact ⟨fun _ => hp, fun c => absurd hc c⟩
    · have e4 : gr S 4 0 0 = some (qi (pr S) 8 17).toNatClampNeg := by rw [k1, if_neg hc]
      have cp3 : gj S 1 b 3 = qj (pr S) 30 b := by rw [h.2.2.2.2.2.1 b hb, if_neg hc]
      have okP := hk.2.2.2.2.2.1 hc b hb
      have okB := hk.2.2.2.2.1 b hb
      by_cases hs : qi (pr S) 8 22 = 0
      · by_cases hw : (0 : Int64) ≤ w ∧ w ≤ (20000000 : Int64)
        · have w0 : 0 ≤ w.toInt := j_le.mp hw.1
          have w1 : w.toInt ≤ 20000000 := j_le.mp hw.2
          have es : (w - qj (pr S) 29 b).toInt = w.toInt - (qj (pr S) 29 b).toInt := j_sub (by omega) (by omega)
          have v0 : 0 ≤ ((if w - qj (pr S) 29 b < (0 : Int64) then (0 : Int64) else w - qj (pr S) 29 b)).toInt := by
            split
            · exact Int.le_refl _
            · rename_i q; have := j_le.mp (Int64.not_lt.mp q); exact this
          have vlo : w ≤ qj (pr S) 29 b → (if w - qj (pr S) 29 b < (0 : Int64) then (0 : Int64) else w - qj (pr S) 29 b) = 0 := by
            intro q
            have q := j_le.mp q
            split
            · rfl
            · rename_i q2
              have q2 : 0 ≤ (w - qj (pr S) 29 b).toInt := j_le.mp (Int64.not_lt.mp q2)
              exact j_inj.mp (show _ = (0 : Int) by omega)
          have vhi : ¬ w ≤ qj (pr S) 29 b → (if w - qj (pr S) 29 b < (0 : Int64) then (0 : Int64) else w - qj (pr S) 29 b) = w - qj (pr S) 29 b := by
            intro q
            have q : (qj (pr S) 29 b).toInt < w.toInt := j_lt.mp (Int64.not_le.mp q)
            exact if_neg (fun q2 => by have q2 : (w - qj (pr S) 29 b).toInt < 0 := j_lt.mp q2; omega)
          generalize hV : (if w - qj (pr S) 29 b < (0 : Int64) then (0 : Int64) else w - qj (pr S) 29 b) = v at v0 vlo vhi
          have refl8 : ∀ post : Int32 → St → Prop, (qj (pr S) 8 19 ≤ v → post 0 S) → (¬ qj (pr S) 8 19 ≤ v → (gj S 1 b 3 = (-1 : Int64) → post 1 (sj S 1 b 3 v)) ∧ (¬ gj S 1 b 3 = (-1 : Int64) → (v < gj S 1 b 3 → post 1 (sj S 1 b 3 v)) ∧ (¬ v < gj S 1 b 3 → post 0 S))) → wp_X8_press (nI b) w S post := by
            intro post f1 f2
            refine c_buyerAtI h hk.1 hb ⟨fun c => (by cases c), fun j e => ?_⟩
            cases e
            refine ⟨fun c => (by rw [e4] at c; cases c), fun j5 e5 => ⟨fun c => absurd (k6.trans hs) c, fun _ => c_isWithin (fun _ _ => ⟨fun _ v9 e9 => ?_, fun c => absurd c (by decide)⟩) (fun c => absurd c (fun q => q.elim (Int64.not_lt.mpr hw.1) (Int64.not_lt.mpr hw.2)))⟩⟩
            rw [cb2] at e9
            have e9 : v9 = v := e9.trans hV
            subst e9
            rw [k4]
            refine ⟨f1, fun c => ?_⟩
            have f2 := f2 c
            refine ⟨fun q => ⟨fun _ S13 e => (by subst e; exact f2.1 q), fun c => absurd rfl c⟩, fun q => ⟨fun q2 => ⟨fun _ S13 e => (by subst e; exact (f2.2 q).1 q2), fun c => absurd rfl c⟩, fun q2 => ⟨fun c => absurd c (by decide), fun _ => (f2.2 q).2 q2⟩⟩⟩
          have refl9 : ∀ T : St, OkC (pr T) → b < aB (pr T) → gi T 8 0 17 = qi (pr S) 8 17 → gi T 8 0 22 = qi (pr S) 8 22 → gj T 8 0 19 = qj (pr S) 8 19 → gj T 29 0 b = qj (pr S) 29 b → gj T 30 0 b = qj (pr S) 30 b →
              ∀ post : Int32 → St → Prop, (qj (pr S) 8 19 ≤ v → post 0 T) → (¬ qj (pr S) 8 19 ≤ v → (qj (pr S) 30 b = (-1 : Int64) → post 1 (sj T 30 0 b v)) ∧ (¬ qj (pr S) 30 b = (-1 : Int64) → (v < qj (pr S) 30 b → post 1 (sj T 30 0 b v)) ∧ (¬ v < qj (pr S) 30 b → post 0 T))) → wp_X9_press (nI b) w T post := by
            intro T t1 t2 t3 t4 t5 t6 t7 post f1 f2
            refine r_isBuyerI t1 t2 ⟨fun c => absurd c (by decide), fun _ => ?_⟩
            rw [t3, t4, t5, nI_clamp (by omega), t6, t7]
            refine ⟨fun c => absurd c hc, fun _ => ⟨fun c => absurd hs c, fun _ => ⟨fun c => absurd c (Int64.not_lt.mpr hw.1), fun _ => ⟨fun _ => ⟨inb, fun c => ?_, fun c => ⟨inb, fun v11 e11 => ?_⟩⟩, fun c => absurd hw.2 c⟩⟩⟩⟩
            · have ev := vlo c
              subst ev
              refine ⟨f1, fun c => ?_⟩
              have f2 := f2 c
              exact ⟨inb, fun q => ⟨inb, fun S6 e => by subst e; exact f2.1 q⟩, fun q => ⟨inb, fun q2 => ⟨inb, fun S6 e => by subst e; exact (f2.2 q).1 q2⟩, fun q2 => (f2.2 q).2 q2⟩⟩
            · have ev : v11 = v := e11.trans (vhi c).symm
              subst ev
              refine ⟨f1, fun c => ?_⟩
              have f2 := f2 c
              exact ⟨inb, fun q => ⟨inb, fun S6 e => by subst e; exact f2.1 q⟩, fun q => ⟨inb, fun q2 => ⟨inb, fun S6 e => by subst e; exact (f2.2 q).1 q2⟩, fun q2 => (f2.2 q).2 q2⟩⟩
          by_cases hset : ¬ qj (pr S) 8 19 ≤ v ∧ (qj (pr S) 30 b = (-1 : Int64) ∨ v < qj (pr S) 30 b)
          · refine ⟨1, sj S 1 b 3 v, sj (sj S 1 b 3 v) 30 0 b v, fun post hp => refl8 post (fun c => absurd c hset.1) (fun _ => ?_), fun post hp => ?_, ?_⟩
            · rw [cp3]
              exact ⟨fun _ => hp, fun q => ⟨fun _ => hp, fun q2 => absurd hset.2 (fun z => z.elim q q2)⟩⟩
            · have hq : pr (sj S 1 b 3 v) = pr S := pr_sjC rfl
              exact refl9 (sj S 1 b 3 v) (hq ▸ hk.1) (hq ▸ hb) g17 g22 g19 g29 g30 post (fun c => absurd c hset.1) (fun _ => ⟨fun _ => hp, fun q => ⟨fun _ => hp, fun q2 => absurd hset.2 (fun z => z.elim q q2)⟩⟩)
            · have v1 : v.toInt < (qj (pr S) 8 19).toInt := j_lt.mp (Int64.not_le.mp hset.1)
              clear refl8 refl9 vlo vhi hV es k1 k2 k3 k4 k5 k6 k7 e4 cb1 cb2 cp3 okP okB hI hset hs
              refine ⟨ob, ?_⟩
              rw [pr_sj rfl, pr_sjC rfl]
              obtain ⟨hCRc, hCRl, hCRt, hCRo, hCRb, hCRp, hCRk, hCRd, hCRs, hCRr⟩ := h
              obtain ⟨hOkC, hOkL, hOkT, hOkN, hOkB, hOkP, hOkD, hOkZ, hOkR⟩ := hk
              generalize pr S = a at *
              refine ⟨⟨?_, ?_, ?_, ?_, ?_, ?_, ?_, ?_, ?_, ?_⟩, ?_, ?_, ?_, ?_, ?_, ?_, ?_, ?_, ?_⟩
              · (simp (disch := simp [nf, nk]) only [CRc_wi, CRc_wj, CRc_si, CRc_sj, CRc_sr, CRc_sn]; exact hCRc)
              · (simp (disch := simp [nf, nk]) only [CRl_wi, CRl_wj, CRl_si, CRl_sj, CRl_sr, CRl_sn]; exact hCRl)
              · (simp (disch := simp [nf, nk]) only [CRt_wi, CRt_wj, CRt_si, CRt_sj, CRt_sr, CRt_sn]; exact hCRt)
              · (simp (disch := simp [nf, nk]) only [CRo_wi, CRo_wj, CRo_si, CRo_sj, CRo_sr, CRo_sn]; exact hCRo)
              · (try simp (disch := simp [nf, nk]) only [CRb_wi, CRb_wj, CRb_si, CRb_sj, CRb_sr, CRb_sn])
                intro x hx
                have := hCRb x hx
                simp [qi_wi, qi_wj, qj_wi, qj_wj, gi_si, gi_sj, gi_sr, gj_si, gj_sj, gj_sr, gr_si, gr_sj, gr_sr, gn_si, gn_sj, gn_sr, gi_sn, gj_sn, gr_sn, gn_sn, aL_wi, aL_wj, aB_wi, aB_wj, aD_wi, aD_wj, aR_wi, aR_wj, sT_wi, sT_wj, lastA_wj, lastA_wi, prevA_wj, prevA_wi]
                exact this
              · (try simp (disch := simp [nf, nk]) only [CRp_wi, CRp_wj, CRp_si, CRp_sj, CRp_sr, CRp_sn])
                intro x hx
                have := hCRp x hx
                simp only [if_neg hc] at this
                by_cases q : x = b
                · subst q; simp [qi_wi, qi_wj, qj_wi, qj_wj, gi_si, gi_sj, gi_sr, gj_si, gj_sj, gj_sr, gr_si, gr_sj, gr_sr, gn_si, gn_sj, gn_sr, gi_sn, gj_sn, gr_sn, gn_sn, aL_wi, aL_wj, aB_wi, aB_wj, aD_wi, aD_wj, aR_wi, aR_wj, sT_wi, sT_wj, lastA_wj, lastA_wi, prevA_wj, prevA_wi, hc]
                · simp [qi_wi, qi_wj, qj_wi, qj_wj, gi_si, gi_sj, gi_sr, gj_si, gj_sj, gj_sr, gr_si, gr_sj, gr_sr, gn_si, gn_sj, gn_sr, gi_sn, gj_sn, gr_sn, gn_sn, aL_wi, aL_wj, aB_wi, aB_wj, aD_wi, aD_wj, aR_wi, aR_wj, sT_wi, sT_wj, lastA_wj, lastA_wi, prevA_wj, prevA_wi, hc, q]; exact this
              · (simp (disch := simp [nf, nk]) only [CRk_wi, CRk_wj, CRk_si, CRk_sj, CRk_sr, CRk_sn]; exact hCRk)
              · (simp (disch := simp [nf, nk]) only [CRd_wi, CRd_wj, CRd_si, CRd_sj, CRd_sr, CRd_sn]; exact hCRd)
              · (simp (disch := simp [nf, nk]) only [CRs_wi, CRs_wj, CRs_si, CRs_sj, CRs_sr, CRs_sn]; exact hCRs)
              · (simp (disch := simp [nf, nk]) only [CRr_wi, CRr_wj, CRr_si, CRr_sj, CRr_sr, CRr_sn]; exact hCRr)
              · (simp (disch := simp [nf, nk]) only [OkC_wi, OkC_wj]; exact hOkC)
              · (simp (disch := simp [nf, nk]) only [OkL_wi, OkL_wj]; exact hOkL)
              · (simp (disch := simp [nf, nk]) only [OkT_wi, OkT_wj]; exact hOkT)
              · (simp (disch := simp [nf, nk]) only [OkN_wi, OkN_wj]; exact hOkN)
              · (simp (disch := simp [nf, nk]) only [OkB_wi, OkB_wj]; exact hOkB)
              · (try simp (disch := simp [nf, nk]) only [OkP_wi, OkP_wj])
                intro _ x hx
                by_cases q : x = b
                · subst q; simp [qi_wi, qi_wj, qj_wi, qj_wj, gi_si, gi_sj, gi_sr, gj_si, gj_sj, gj_sr, gr_si, gr_sj, gr_sr, gn_si, gn_sj, gn_sr, gi_sn, gj_sn, gr_sn, gn_sn, aL_wi, aL_wj, aB_wi, aB_wj, aD_wi, aD_wj, aR_wi, aR_wj, sT_wi, sT_wj, lastA_wj, lastA_wi, prevA_wj, prevA_wi]; exact Or.inr ⟨v0, v1⟩
                · have := hOkP hc x hx
                  simp [qi_wi, qi_wj, qj_wi, qj_wj, gi_si, gi_sj, gi_sr, gj_si, gj_sj, gj_sr, gr_si, gr_sj, gr_sr, gn_si, gn_sj, gn_sr, gi_sn, gj_sn, gr_sn, gn_sn, aL_wi, aL_wj, aB_wi, aB_wj, aD_wi, aD_wj, aR_wi, aR_wj, sT_wi, sT_wj, lastA_wj, lastA_wi, prevA_wj, prevA_wi, q]; exact this
              · (simp (disch := simp [nf, nk]) only [OkD_wi, OkD_wj]; exact hOkD)
              · (simp (disch := simp [nf, nk]) only [OkZ_wi, OkZ_wj]; exact hOkZ)
              · (simp (disch := simp [nf, nk]) only [OkR_wi, OkR_wj]; exact hOkR)
          · have hset : ¬ qj (pr S) 8 19 ≤ v → (¬ qj (pr S) 30 b = (-1 : Int64)) ∧ ¬ v < qj (pr S) 30 b := fun c => ⟨fun q => hset ⟨c, Or.inl q⟩, fun q => hset ⟨c, Or.inr q⟩⟩
            refine Both.ro hI 0 (fun post hp => refl8 post (fun _ => hp) (fun c => ?_)) (fun post hp => refl9 S hk.1 hb g17 g22 g19 g29 g30 post (fun _ => hp) (fun c => ?_))
            · rw [cp3]
              exact ⟨fun q => absurd q (hset c).1, fun _ => ⟨fun q => absurd q (hset c).2, fun _ => hp⟩⟩
            · exact ⟨fun q => absurd q (hset c).1, fun _ => ⟨fun q => absurd q (hset c).2, fun _ => hp⟩⟩
        · refine Both.ro hI 0 (fun post hp => ?_) (fun post hp => ?_)
          · refine c_buyerAtI h hk.1 hb ⟨fun c => (by cases c), fun j e => ?_⟩
            refine ⟨fun c => (by rw [e4] at c; cases c), fun j5 e5 => ⟨fun c => hp, fun _ => c_isWithin (fun b1 b2 => absurd ⟨b1, b2⟩ hw) (fun _ => ⟨fun c => absurd rfl c, fun _ => hp⟩)⟩⟩
          · refine r_isBuyerI hk.1 hb ⟨fun c => absurd c (by decide), fun _ => ?_⟩
            exact ⟨fun _ => hp, fun _ => ⟨fun _ => hp, fun _ => ⟨fun _ => hp, fun b1 => ⟨fun b2 => absurd ⟨Int64.not_lt.mp b1, b2⟩ hw, fun _ => hp⟩⟩⟩⟩
      · refine Both.ro hI 0 (fun post hp => ?_) (fun post hp => ?_)
        · refine c_buyerAtI h hk.1 hb ⟨fun c => (by cases c), fun j e => ?_⟩
          refine ⟨fun c => (by rw [e4] at c; cases c), fun j5 e5 => ⟨fun c => hp, fun c => absurd (k6.symm.trans c) hs⟩⟩
        · refine r_isBuyerI hk.1 hb ⟨fun c => absurd c (by decide), fun _ => ?_⟩
          exact ⟨fun _ => hp, fun _ => ⟨fun _ => hp, fun c => absurd (g22.symm.trans c) hs⟩⟩
  · refine Both.ro hI 0 (fun post hp => ?_) (fun post hp => ?_)
    · refine c_buyerAtN h hk.1 hn ?_
      exact ⟨fun _ => hp, fun j e => (by cases e)⟩
    · refine r_isBuyerN hk.1 hn ?_
      exact ⟨fun _ => hp, fun c => absurd rfl c⟩
