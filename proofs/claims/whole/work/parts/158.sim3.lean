theorem sj_same {S : St} {k j f : Nat} : sj S k j f (gj S k j f) = S := by
  refine Prod.ext rfl (Prod.ext ?_ rfl)
  funext x y z
  show (if x = k ∧ y = j ∧ z = f then S.2.1 k j f else S.2.1 x y z) = S.2.1 x y z
  split
  · rename_i q; rw [q.1, q.2.1, q.2.2]
  · rfl
theorem wj_same {a : RS} {k f : Nat} : wj a k f (qj a k f) = a := by
  refine Prod.ext rfl ?_
  funext x y
  show (if x = k ∧ y = f then a.2 k f else a.2 x y) = a.2 x y
  split
  · rename_i q; rw [q.1, q.2]
  · rfl
theorem wi_comm {a : RS} {k f k2 f2 : Nat} {v v2 : Int32} (h : ¬ (k = k2 ∧ f = f2)) : wi (wi a k f v) k2 f2 v2 = wi (wi a k2 f2 v2) k f v := by
  refine Prod.ext ?_ rfl
  funext x y
  show (if x = k2 ∧ y = f2 then v2 else if x = k ∧ y = f then v else a.1 x y) = if x = k ∧ y = f then v else if x = k2 ∧ y = f2 then v2 else a.1 x y
  by_cases e : x = k ∧ y = f
  · rw [if_pos e, if_pos e, if_neg (fun q => h ⟨e.1.symm.trans q.1, e.2.symm.trans q.2⟩)]
  · rw [if_neg e, if_neg e]
theorem wj_comm {a : RS} {k f k2 f2 : Nat} {v v2 : Int64} (h : ¬ (k = k2 ∧ f = f2)) : wj (wj a k f v) k2 f2 v2 = wj (wj a k2 f2 v2) k f v := by
  refine Prod.ext rfl ?_
  funext x y
  show (if x = k2 ∧ y = f2 then v2 else if x = k ∧ y = f then v else a.2 x y) = if x = k ∧ y = f then v else if x = k2 ∧ y = f2 then v2 else a.2 x y
  by_cases e : x = k ∧ y = f
  · rw [if_pos e, if_pos e, if_neg (fun q => h ⟨e.1.symm.trans q.1, e.2.symm.trans q.2⟩)]
  · rw [if_neg e, if_neg e]
theorem dropF_c {p p2 : Nat → Int64} {P P2 : Nat → Prop} {n b : Nat} (h : p b = p2 b) (hP : P b ↔ P2 b) : dropF p P n b = dropF p2 P2 n b := by
  unfold dropF
  by_cases q : b < n ∧ P b
  · rw [if_pos q, if_pos ⟨q.1, hP.mp q.2⟩]
  · rw [if_neg q, if_neg (fun z => q ⟨z.1, hP.mpr z.2⟩), h]
theorem dropF_or (p : Nat → Int64) (P : Nat → Prop) (n b : Nat) : dropF p P n b = -1 ∨ dropF p P n b = p b := by
  unfold dropF
  by_cases q : b < n ∧ P b
  · rw [if_pos q]; exact Or.inl rfl
  · rw [if_neg q]; exact Or.inr rfl
theorem Ok.out {a : RS} {v : Int32} {t : Int64} (hk : Ok a) (hv : v = 0 ∨ v = 1) (t0 : 0 ≤ t.toInt) (t1 : t.toInt ≤ (qj a 8 19).toInt) : Ok (wj (wi a 8 22 v) 8 18 t) := by
  obtain ⟨hOkC, hOkL, hOkT, hOkN, hOkB, hOkP, hOkD, hOkZ, hOkR⟩ := hk
  refine ⟨?_, ?_, ?_, ?_, ?_, ?_, ?_, ?_, ?_⟩
  · (simp (disch := simp [nf, nk]) only [OkC_wi, OkC_wj]; exact hOkC)
  · (simp (disch := simp [nf, nk]) only [OkL_wi, OkL_wj]; exact hOkL)
  · (simp (disch := simp [nf, nk]) only [OkT_wi, OkT_wj]; exact hOkT)
  · refine ⟨hv, hOkN.2.1, hOkN.2.2.imp id ?_⟩
    rintro ⟨x, hx, q1, q2, q3, q4, q5⟩
    exact ⟨x, hx, q1, q2, t0, t1, q5⟩
  · (simp (disch := simp [nf, nk]) only [OkB_wi, OkB_wj]; exact hOkB)
  · (simp (disch := simp [nf, nk]) only [OkP_wi, OkP_wj]; exact hOkP)
  · (simp (disch := simp [nf, nk]) only [OkD_wi, OkD_wj]; exact hOkD)
  · (simp (disch := simp [nf, nk]) only [OkZ_wi, OkZ_wj]; exact hOkZ)
  · (simp (disch := simp [nf, nk]) only [OkR_wi, OkR_wj]; exact hOkR)
theorem CR.out {S : St} {a : RS} {ob : Nat} {v : Int32} {t : Int64} (h : CR S a ob) : CR (sj (si S 4 0 5 v) 4 0 4 t) (wj (wi a 8 22 v) 8 18 t) ob := by
  obtain ⟨hCRc, hCRl, hCRt, hCRo, hCRb, hCRp, hCRk, hCRd, hCRs, hCRr⟩ := h
  refine ⟨?_, ?_, ?_, ?_, ?_, ?_, ?_, ?_, ?_, ?_⟩
  · (simp (disch := simp [nf, nk]) only [CRc_wi, CRc_wj, CRc_si, CRc_sj]; exact hCRc)
  · (simp (disch := simp [nf, nk]) only [CRl_wi, CRl_wj, CRl_si, CRl_sj]; exact hCRl)
  · (simp (disch := simp [nf, nk]) only [CRt_wi, CRt_wj, CRt_si, CRt_sj]; exact hCRt)
  · (simp (disch := simp [nf, nk]) only [CRo_wi, CRo_wj, CRo_si, CRo_sj]; exact hCRo)
  · (simp (disch := simp [nf, nk]) only [CRb_wi, CRb_wj, CRb_si, CRb_sj]; exact hCRb)
  · (simp (disch := simp [nf, nk]) only [CRp_wi, CRp_wj, CRp_si, CRp_sj]; exact hCRp)
  · obtain ⟨k1, k2, k3, k4, k5, k6, k7⟩ := hCRk
    exact ⟨k1, k2, k3, k4, rfl, rfl, k7⟩
  · (simp (disch := simp [nf, nk]) only [CRd_wi, CRd_wj, CRd_si, CRd_sj]; exact hCRd)
  · (simp (disch := simp [nf, nk]) only [CRs_wi, CRs_wj, CRs_si, CRs_sj]; exact hCRs)
  · (simp (disch := simp [nf, nk]) only [CRr_wi, CRr_wj, CRr_si, CRr_sj]; exact hCRr)
theorem s_outage (w : Int64) (p : Int32) (hb : bz p) {a : RS} (hk : Ok a) : Sim (wp_X8_outage w p) (wp_X9_outage w p) a := by
  have hB := hk.1.2.2.2.1
  by_cases hn : qi a 8 17 = -1
  · refine ⟨0, a, hk, ClR.ro (fun S ob h post hp => ?_), RfR.ro (fun S hS post hp => ?_)⟩
    · have k1 := h.2.2.2.2.2.2.1.1
      rw [if_pos hn] at k1
      exact ⟨fun _ => hp, fun j e => by rw [k1] at e; cases e⟩
    · subst hS
      exact ⟨fun _ => hp, fun c => absurd ((gi_pr rfl).trans hn) c⟩
  · by_cases hs : qi a 8 22 = p
    · refine ⟨0, a, hk, ClR.ro (fun S ob h post hp => ?_), RfR.ro (fun S hS post hp => ?_)⟩
      · obtain ⟨k1, k2, k3, k4, k5, k6, k7⟩ := h.2.2.2.2.2.2.1
        rw [if_neg hn] at k1
        exact ⟨fun c => (by rw [k1] at c; cases c), fun j e => ⟨fun c => absurd (k6.trans hs) c, fun _ => hp⟩⟩
      · subst hS
        exact ⟨fun _ => hp, fun _ => ⟨fun _ => hp, fun c => absurd ((gi_pr rfl).trans hs) c⟩⟩
    · obtain ⟨x, hx, q1, q2, n1, n2, n3, n4, n5, n6, n7⟩ := hk.2.2.2.1.2.2.resolve_left hn
      rcases hb with rfl | rfl
      · by_cases hw : (0 : Int64) ≤ w ∧ w ≤ (0 : Int64)
        · have e18 : wj (wi a 8 22 0) 8 18 (qj a 8 18) = wi a 8 22 0 := wj_same (a := wi a 8 22 0)
          refine ⟨1, wi a 8 22 0, e18 ▸ hk.out (Or.inl rfl) n1 n2, fun S ob h => ?_, fun S hS => ?_⟩
          · obtain ⟨k1, k2, k3, k4, k5, k6, k7⟩ := h.2.2.2.2.2.2.1
            rw [if_neg hn] at k1
            have es : sj (si S 4 0 5 0) 4 0 4 (qj a 8 18) = si S 4 0 5 0 := by
              rw [← k5]; exact sj_same (S := si S 4 0 5 0)
            refine ⟨si S 4 0 5 0, fun post hp => ?_, by rw [← es, ← e18]; exact h.out, pr_siC rfl, rfl⟩
            refine ⟨fun c => (by rw [k1] at c; cases c), fun j e => ⟨fun _ => ⟨fun _ => ?_, fun c => absurd rfl c⟩, fun c => absurd (k6.symm.trans c) hs⟩⟩
            refine c_isWithin (fun _ _ => ⟨fun _ => ⟨Or.inl rfl, fun S7 e7 => ⟨fun _ => by rw [e7]; exact hp, fun c => absurd rfl c⟩⟩, fun c => absurd c (by decide)⟩) (fun c => absurd c (fun q => q.elim (Int64.not_lt.mpr hw.1) (Int64.not_lt.mpr hw.2)))
          · subst hS
            refine ⟨si S 8 0 22 0, fun post hp => ?_, pr_si rfl, CS.si CS.rf rfl⟩
            refine ⟨fun c => absurd ((gi_pr rfl).symm.trans c) hn, fun _ => ⟨fun c => absurd ((gi_pr rfl).symm.trans c) hs, fun _ => ⟨fun c => absurd c (Int64.not_lt.mpr hw.1), fun _ => ⟨fun _ => ⟨fun _ => ⟨Or.inl rfl, fun S1 e1 => ⟨fun _ => by rw [e1]; exact hp, fun c => absurd rfl c⟩⟩, fun c => absurd hw.2 c⟩, fun c => absurd rfl c⟩⟩⟩⟩
        · refine ⟨0, a, hk, ClR.ro (fun S ob h post hp => ?_), RfR.ro (fun S hS post hp => ?_)⟩
          · obtain ⟨k1, k2, k3, k4, k5, k6, k7⟩ := h.2.2.2.2.2.2.1
            rw [if_neg hn] at k1
            refine ⟨fun c => (by rw [k1] at c; cases c), fun j e => ⟨fun _ => ⟨fun _ => ?_, fun c => absurd rfl c⟩, fun _ => hp⟩⟩
            exact c_isWithin (fun b1 b2 => absurd ⟨b1, b2⟩ hw) (fun _ => ⟨fun c => absurd rfl c, fun _ => hp⟩)
          · subst hS
            exact ⟨fun _ => hp, fun _ => ⟨fun _ => hp, fun _ => ⟨fun _ => hp, fun b1 => ⟨fun _ => ⟨fun b2 => absurd ⟨Int64.not_lt.mp b1, b2⟩ hw, fun _ => hp⟩, fun c => absurd rfl c⟩⟩⟩⟩
      · by_cases hw : (0 : Int64) ≤ w ∧ w ≤ qj a 8 18
        · have w0 : 0 ≤ w.toInt := j_le.mp hw.1
          have w1 : w.toInt ≤ (qj a 8 18).toInt := j_le.mp hw.2
          have es : (qj a 8 18 - w).toInt = (qj a 8 18).toInt - w.toInt := j_sub (by omega) (by omega)
          have ed : ((qj a 8 18 - w) / (100 : Int64)).toInt = ((qj a 8 18).toInt - w.toInt) / 100 := by
            rw [← es]; exact j_div (by omega) (by decide)
          have em : ((qj a 8 18 - w) / (100 : Int64) * (100 : Int64)).toInt = ((qj a 8 18).toInt - w.toInt) / 100 * 100 := by
            rw [← ed]; exact j_mul (y := 100) (by rw [show (100 : Int64).toInt = 100 from rfl]; omega) (by rw [show (100 : Int64).toInt = 100 from rfl]; omega)
          generalize hT : (qj a 8 18 - w) / (100 : Int64) * (100 : Int64) = t at em
          have t0 : 0 ≤ t.toInt := by omega
          have t1 : t.toInt ≤ (qj a 8 19).toInt := by omega
          refine ⟨1, wP (wj (wi a 8 22 1) 8 18 t) (dropF (fun b => qj a 30 b) (fun b => ¬ qj a 30 b < t) (aB a)), (hk.out (Or.inr rfl) t0 t1).P (fun _ b hb => ?_), fun S ob h => ?_, fun S hS => ?_⟩
          · rcases dropF_or (fun b => qj a 30 b) (fun b => ¬ qj a 30 b < t) (aB a) b with q | q
            · exact Or.inl q
            · rw [q]; exact hk.2.2.2.2.2.1 hn b hb
          · obtain ⟨k1, k2, k3, k4, k5, k6, k7⟩ := h.2.2.2.2.2.2.1
            rw [if_neg hn] at k1
            have g7 : gi S 7 0 7 = nI (aB a) := h.1.2.1.trans hk.1.2.2.1
            have g11 : ∀ b, b < aB a → gr S 11 0 b = some b := fun b hb => (h.2.2.2.2.1 b hb).1
            refine ⟨sP (sj (si S 4 0 5 1) 4 0 4 t) (dropF (fun b => gj S 1 b 3) (fun b => ¬ gj S 1 b 3 < t) (aB a)), fun post hp => ?_, ?_, ?_⟩
            · refine ⟨fun c => (by rw [k1] at c; cases c), fun j e => ⟨fun _ => ⟨fun c => absurd c (by decide), fun _ => ?_⟩, fun c => absurd (k6.symm.trans c) hs⟩⟩
              rw [k5]
              refine c_isWithin (fun _ _ => ⟨fun _ => ⟨Or.inr rfl, fun S7 e7 => ⟨fun c => absurd c (by decide), fun _ S10 e10 => ?_⟩⟩, fun c => absurd c (by decide)⟩) (fun c => absurd c (fun q => q.elim (Int64.not_lt.mpr hw.1) (Int64.not_lt.mpr hw.2)))
              have f7 : gj S7 4 0 4 = qj a 8 18 := by rw [e7]; exact k5
              rw [f7, hT, e7] at e10
              have f10 : gj S10 4 0 4 = t := by rw [e10]; rfl
              show wp_X8_dropPressesFrom (gj S10 4 0 4) S10 (fun S22 => post 1 S22)
              rw [f10, e10]
              exact c_dropFrom (S := sj (si S 4 0 5 1) 4 0 4 t) g7 hB g11 hp
            · refine CR.P h.out (fun b hb => ?_)
              have hb : b < aB a := hb
              rw [if_neg (show ¬ qi (wj (wi a 8 22 1) 8 18 t) 8 17 = -1 from hn)]
              have ep := h.2.2.2.2.2.1 b hb
              rw [if_neg hn] at ep
              exact dropF_c ep (by rw [ep])
            · exact PR_sP _ ⟨by rw [pr_sjC rfl, pr_siC rfl], rfl⟩
          · subst hS
            have g12 : gi S 8 0 12 = nI (aB (pr S)) := (gi_pr rfl).trans hk.1.2.2.1
            refine ⟨sQ (sj (si S 8 0 22 1) 8 0 18 t) (dropF (fun b => gj S 30 0 b) (fun b => ¬ gj S 30 0 b < t) (aB (pr S))), fun post hp => ?_, ?_, cs_sQ _ (CS.sj (CS.si CS.rf rfl) rfl)⟩
            · refine ⟨fun c => absurd ((gi_pr rfl).symm.trans c) hn, fun _ => ⟨fun c => absurd ((gi_pr rfl).symm.trans c) hs, fun _ => ⟨fun c => absurd c (Int64.not_lt.mpr hw.1), fun _ => ⟨fun c => absurd c (by decide), fun _ => ⟨fun _ => ⟨Or.inr rfl, fun S11 e11 => ⟨fun c => absurd c (by decide), fun _ S12 e12 => ?_⟩⟩, fun c => absurd ((show gj S 8 0 18 = qj (pr S) 8 18 from gj_pr rfl) ▸ hw.2) c⟩⟩⟩⟩⟩
              have f11 : gj S11 8 0 18 = qj (pr S) 8 18 := by rw [e11]; exact gj_pr rfl
              rw [f11, hT, e11] at e12
              rw [e12]
              exact r_outLoop (S := sj (si S 8 0 22 1) 8 0 18 t) g12 hB hp
            · rw [pr_sQ, pr_sj rfl, pr_si rfl]
              have e30 : (fun b => gj S 30 0 b) = fun b => qj (pr S) 30 b := funext (fun b => gj_pr rfl)
              have e31 : (fun b => ¬ gj S 30 0 b < t) = fun b => ¬ qj (pr S) 30 b < t := funext (fun b => by rw [show gj S 30 0 b = qj (pr S) 30 b from gj_pr rfl])
              rw [e30, e31]
        · refine ⟨0, a, hk, ClR.ro (fun S ob h post hp => ?_), RfR.ro (fun S hS post hp => ?_)⟩
          · obtain ⟨k1, k2, k3, k4, k5, k6, k7⟩ := h.2.2.2.2.2.2.1
            rw [if_neg hn] at k1
            refine ⟨fun c => (by rw [k1] at c; cases c), fun j e => ⟨fun _ => ⟨fun c => absurd c (by decide), fun _ => ?_⟩, fun _ => hp⟩⟩
            rw [k5]
            exact c_isWithin (fun b1 b2 => absurd ⟨b1, b2⟩ hw) (fun _ => ⟨fun c => absurd rfl c, fun _ => hp⟩)
          · subst hS
            have e : gj S 8 0 18 = qj (pr S) 8 18 := gj_pr rfl
            exact ⟨fun _ => hp, fun _ => ⟨fun _ => hp, fun _ => ⟨fun _ => hp, fun b1 => ⟨fun c => absurd c (by decide), fun _ => ⟨fun b2 => absurd ⟨Int64.not_lt.mp b1, e ▸ b2⟩ hw, fun _ => hp⟩⟩⟩⟩⟩
