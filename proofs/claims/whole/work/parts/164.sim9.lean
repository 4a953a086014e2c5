/-! ===== the clock goes on ===== -/
theorem note_off {a : RS} {so lo bu : Int32} {ce : Int64} : wi (aNote a so lo bu ce) 8 17 (-1) = aNote (offA a) so lo bu ce := by
  have e1 : aR (offA a) = aR a := rfl
  have e2 : lastA (offA a) = lastA a := by unfold offA; exact lastA_wi (by decide) (Or.inr (by decide))
  unfold aNote aNoteL
  rw [e1, e2]
  unfold offA
  rw [wi_comm (k := 8) (f := 30) (k2 := 8) (by omega), wi_comm (k := 38) (k2 := 8) (by omega)]
  show wi (wi (wj (wi (wi (wi (wi a 34 (aR a) so) 35 (aR a) lo) 36 (aR a) bu) 8 17 (-1)) 37 (aR a) ce) 38 (aR a) (nextF (lastA a) so lo bu ce)) 8 30 (nI (aR a + 1)) = _
  rw [wi_comm (k := 36) (k2 := 8) (by omega), wi_comm (k := 35) (k2 := 8) (by omega), wi_comm (k := 34) (k2 := 8) (by omega)]
theorem Ok.on {a : RS} (h : Ok a) (hn : qi a 8 17 ≠ -1) : ∃ i, i < aL a ∧ qi a 8 17 = nI i ∧ sT a i = 1 ∧ 0 ≤ (qj a 8 18).toInt ∧ (qj a 8 18).toInt ≤ (qj a 8 19).toInt ∧ (qj a 8 19).toInt ≤ 10000000 := by
  obtain ⟨x, hx, q1, q2, n1, n2, n3, -⟩ := h.2.2.2.1.2.2.resolve_left hn
  exact ⟨x, hx, q1, q2, n1, n2, n3⟩
def unsA (a : RS) (i : Nat) : RS := wi a 20 i 4
theorem uns_q {a : RS} {i : Nat} : sT (unsA a i) i = 4 ∧ qi (unsA a i) 20 i = 4 := by
  have e : qi (unsA a i) 20 i = 4 := by unfold unsA; rw [qi_wi, if_pos ⟨rfl, rfl⟩]
  exact ⟨by unfold sT; rw [e]; rfl, e⟩
theorem uns_sa {a : RS} {i : Nat} : SA a (unsA a i) i := SA.i SA.rf (by omega)
theorem CR.uns {S : St} {a : RS} {ob i : Nat} (h : CR S a ob) (hi : i < aL a) : CR (sr S 5 i 4 (some 4)) (unsA a i) ob := by
  obtain ⟨e1, e2⟩ := uns_q (a := a) (i := i)
  have row := h.2.1 i hi
  refine CR.lot h (SB.r SB.rf) uns_sa ?_ ?_ ?_
  · rw [e1]
    exact ⟨row.2.1, row.2.2.1, row.2.2.2.1, row.2.2.2.2.1, by rw [gr_sr]; exact if_pos ⟨rfl, rfl, rfl⟩, row.2.2.2.2.2.2⟩
  · rw [e1]; exact fun c => absurd c (by omega)
  · rw [e1]; exact fun c => absurd c (by omega)
theorem Ok.uns {a : RS} (h : Ok a) {i : Nat} (hi : i < aL a) (hs : sT a i = 1) (hn : qi a 8 17 = -1) : Ok (unsA a i) := by
  have hL := h.1.2.1
  have okl := h.2.1 i hi
  obtain ⟨e1, e2⟩ := uns_q (a := a) (i := i)
  refine Ok.lot h hi uns_sa (fun z => nI_m1 (by omega) (z.symm.trans hn)) ?_ ?_ ?_ ?_ ?_
  · rw [e1, e2]; exact ⟨rfl, by omega, okl.2.2⟩
  · rw [e1]
    refine ⟨fun c => absurd c (by omega), fun c => ?_⟩
    have := ((h.2.2.1 i hi).2 c).1
    omega
  · rw [e1]; exact fun c => absurd c (by omega)
  · intro b hb
    rw [hvZ_off (a := a) (by omega), hvZ_off (a := unsA a i) (by rw [e1]; omega)]
    have := (h.2.2.2.2.1 b hb).2.2.2.2
    omega
  · have e25 : qi (unsA a i) 25 i = qi a 25 i := rfl
    unfold capA
    rw [e1, e25, hs]
    simp
theorem cap_uns {a : RS} (h : Ok a) {i : Nat} (hi : i < aL a) (hs : sT a i = 1) : aR a < capS (unsA a i) (aL a) := by
  obtain ⟨e1, e2⟩ := uns_q (a := a) (i := i)
  have e := capS_sa (uns_sa (a := a) (i := i)) hi
  have e25 : qi (unsA a i) 25 i = qi a 25 i := rfl
  have c1 : capA a i + 1 ≤ capA (unsA a i) i := by
    unfold capA
    rw [e1, e25, hs]
    simp
  have := h.1.2.2.2.2.2.2.2
  omega
theorem s_run (w : Int64) (w0 : 1 ≤ w.toInt) (w1 : w.toInt ≤ 1000000) {a : RS} (hk : Ok a) : Sim (wp_X8_runClock w) (wp_X9_goOn w) a := by
  have hB := hk.1.2.2.2.1
  have hL := hk.1.2.1
  by_cases hn : qi a 8 17 = -1
  · refine ⟨-1, a, hk, ClR.ro (fun S ob h post hp => ?_), RfR.ro (fun S hS post hp => ?_)⟩
    · have k1 := h.2.2.2.2.2.2.1.1
      rw [if_pos hn] at k1
      exact ⟨fun _ => hp, fun j e => by rw [k1] at e; cases e⟩
    · subst hS
      exact ⟨fun c => absurd ((gi_pr rfl).trans hn) c, fun _ => hp⟩
  · by_cases hs : qi a 8 22 = 0
    · obtain ⟨i, hi, q1, q2, n1, n2, n3⟩ := hk.on hn
      have ek1 : ∀ S ob, CR S a ob → gr S 4 0 0 = some i := fun S ob h => by
        rw [h.2.2.2.2.2.2.1.1, if_neg hn, q1, nI_clamp (by omega)]
      have es : (qj a 8 18 + w).toInt = (qj a 8 18).toInt + w.toInt := j_add (by omega) (by omega)
      obtain ⟨t, ht8, ht9, t0, t1⟩ : ∃ t : Int64, (if qj a 8 19 < qj a 8 18 + w then qj a 8 19 else qj a 8 18 + w) = t ∧ ((qj a 8 19 ≤ qj a 8 18 + w → qj a 8 19 = t) ∧ (¬ qj a 8 19 ≤ qj a 8 18 + w → qj a 8 18 + w = t)) ∧ 0 ≤ t.toInt ∧ t.toInt ≤ (qj a 8 19).toInt := by
        by_cases c : qj a 8 19 < qj a 8 18 + w
        · have c2 := j_lt.mp c
          exact ⟨qj a 8 19, if_pos c, ⟨fun _ => rfl, fun z => absurd (j_le.mpr (by omega)) z⟩, by omega, by omega⟩
        · have c2 := j_le.mp (Int64.not_lt.mp c)
          rw [es] at c2
          refine ⟨qj a 8 18 + w, if_neg c, ⟨fun z => ?_, fun _ => rfl⟩, by omega, by omega⟩
          have z := j_le.mp z
          exact j_inj.mp (by omega)
      have ok1 : Ok (wj a 8 18 t) := hk.time t0 t1
      have invP : invG (wj a 8 18 t) (fun b => qj a 30 b) := fun b _ => Or.inl rfl
      obtain ⟨g2, ig, hend⟩ := r_goLoop ok1.1 ok1.2.1 (cntP (fun b => qj a 30 b) (aB (wj a 8 18 t))) (fun b => qj a 30 b) (Nat.le_refl _) invP
      have gok : ∀ b, b < aB a → g2 b = -1 ∨ (0 ≤ (g2 b).toInt ∧ (g2 b).toInt < (qj a 8 19).toInt) := by
        intro b hb
        rcases ig b hb with z | z
        · rw [z]; exact hk.2.2.2.2.2.1 hn b hb
        · exact Or.inl z.1
      have okP : Ok (wP (wj a 8 18 t) g2) := ok1.P (fun _ b hb => gok b hb)
      have pS : ∀ S ob, CR S a ob → ∀ b, b < aB a → gj S 1 b 3 = qj a 30 b := fun S ob h b hb => (h.2.2.2.2.2.1 b hb).trans (if_neg hn)
      -- the class as far as its first due press
      have walk8 : ∀ S ob, CR S a ob → ∀ post : Int32 → St → Prop, ((fun r8 S7 => (r8 = none →
  ((gj S7 4 0 3) ≤ (gj S7 4 0 4) →
  ∀ S12 : St, S12 = sr S7 5 i 4 (some 4) →
  wp_X8_stopClock S12 (fun S13 =>
  wp_X2_add (2 : Int32) (gi S13 5 i 0) (-1 : Int32) (0 : Int64) S13 (fun S15 =>
  post (2 : Int32) S15))) ∧
  (¬ (gj S7 4 0 3) ≤ (gj S7 4 0 4) →
  post (0 : Int32) S7)) ∧
  (∀ j9 : Nat, r8 = some j9 →
  wp_X8_sellByClock i j9 S7 (fun S16 =>
  post (1 : Int32) S16))) (fstF (dropF (fun b => gj S 1 b 3) (badP (wj a 8 18 t) (fun b => gj S 1 b 3)) (aB a)) t (aB a)) (sP (sj S 4 0 4 t) (dropF (fun b => gj S 1 b 3) (badP (wj a 8 18 t) (fun b => gj S 1 b 3)) (aB a)))) → wp_X8_runClock w S post := by
        intro S ob h post hp
        obtain ⟨k1, k2, k3, k4, k5, k6, k7⟩ := h.2.2.2.2.2.2.1
        refine ⟨fun c => (by rw [ek1 S ob h] at c; cases c), fun j e => ⟨fun _ S1 e1 => ?_, fun c => absurd (k6.trans hs) c⟩⟩
        rw [ek1 S ob h] at e
        cases e
        rw [k4, k5, ht8] at e1
        subst e1
        refine c_dropPay (S := sj S 4 0 4 t) h.time ok1.1 hn ?_
        exact c_first (S := sP (sj S 4 0 4 t) (dropF (fun b => gj S 1 b 3) (badP (wj a 8 18 t) (fun b => gj S 1 b 3)) (aB a))) (h.1.2.1.trans hk.1.2.2.1) hB (fun b hb => (h.2.2.2.2.1 b hb).1) hp
      -- the reference as far as its loop
      have walk9 : ∀ S, pr S = a → ∀ post : Int32 → St → Prop, (∃ n, lp_X9_goOn_55 post n (retO (fstF (fun b => qj a 30 b) (qj (wj a 8 18 t) 8 18) (aB (wj a 8 18 t)))) (sQ (sj S 8 0 18 t) (fun b => qj a 30 b))) → wp_X9_goOn w S post := by
        intro S hS post hp
        clear hend walk8
        subst hS
        have g12 : gi S 8 0 12 = nI (aB (pr S)) := (gi_pr rfl).trans hk.1.2.2.1
        have e30 : (fun b => gj S 30 0 b) = fun b => qj (pr S) 30 b := funext (fun b => gj_pr rfl)
        have fin : ∀ T : St, T = sj S 8 0 18 t → wp_X9_earliest T (fun r3 S2 => ∃ n : Nat, lp_X9_goOn_55 post n r3 S2) := by
          intro T eT
          subst eT
          refine r_earliest (S := sj S 8 0 18 t) g12 hB ?_
          show ∃ n, lp_X9_goOn_55 post n (retO (fstF (fun b => gj S 30 0 b) t (aB (pr S)))) (sj S 8 0 18 t)
          have hq := sQ_id (sj S 8 0 18 t)
          rw [show (fun b => gj (sj S 8 0 18 t) 30 0 b) = fun b => qj (pr S) 30 b from e30] at hq
          rw [hq] at hp
          rw [e30]
          exact hp
        refine ⟨fun _ => ⟨fun _ => ?_, fun c => absurd ((gi_pr rfl).trans hs) c⟩, fun c => absurd ((gi_pr rfl).symm.trans c) hn⟩
        rw [show gj S 8 0 19 = qj (pr S) 8 19 from gj_pr rfl, show gj S 8 0 18 = qj (pr S) 8 18 from gj_pr rfl]
        exact ⟨fun c T eT => fin T (by rw [eT, ht9.1 c]), fun c T eT => fin T (by rw [eT, ht9.2 c])⟩
      have prT : ∀ S, pr S = a → pr (sj S 8 0 18 t) = wj a 8 18 t := fun S hS => by rw [pr_sj rfl, hS]
      have csT : ∀ S : St, CS S (sj S 8 0 18 t) := fun S => CS.sj CS.rf rfl
      rcases hend with ⟨hf, hend⟩ | ⟨j, hf, hpay, hend⟩
      · have sm : ∀ S ob, CR S a ob → fstF (dropF (fun b => gj S 1 b 3) (badP (wj a 8 18 t) (fun b => gj S 1 b 3)) (aB a)) t (aB a) = none ∧ ∀ b, b < aB a → dropF (fun b => gj S 1 b 3) (badP (wj a 8 18 t) (fun b => gj S 1 b 3)) (aB a) b = g2 b := fun S ob h => same_none (a := wj a 8 18 t) (pS S ob h) ig hf
        by_cases he : qj a 8 19 ≤ t
        · -- unsold
          have ok2 : Ok (unsA (offA (wP (wj a 8 18 t) g2)) i) := (okP.off).uns hi q2 rfl
          have hcap : aR a < capS (unsA (offA (wP (wj a 8 18 t) g2)) i) (aL a) := cap_uns (okP.off) hi q2
          have hR : aR a < 240 := by
            have := capS_le (unsA (offA (wP (wj a 8 18 t) g2)) i) (aL a); omega
          refine ⟨2, aNote (unsA (offA (wP (wj a 8 18 t) g2)) i) 2 (nI i) (-1) 0, ok2.note hcap, fun S ob h => ?_, fun S hS => ?_⟩
          · obtain ⟨s1, s2⟩ := sm S ob h
            have hr : gi S 2 0 1 = nI (aR a) := h.2.2.2.2.2.2.2.2.2.1.trans hk.1.2.2.2.2.2.2.1
            have h3 : gn S 3 = aR a := h.1.2.2.2.2.2.1
            have gi0 : gi S 5 i 0 = nI i := (h.2.1 i hi).2.1
            have hm := stopF_m (S := sr (sP (sj S 4 0 4 t) (dropF (fun b => gj S 1 b 3) (badP (wj a 8 18 t) (fun b => gj S 1 b 3)) (aB a))) 5 i 4 (some 4)) (B := aB a) (fun b hb => by
              show dropF (fun b => gj S 1 b 3) (badP (wj a 8 18 t) (fun b => gj S 1 b 3)) (aB a) b = -1 ∨ 0 ≤ (dropF (fun b => gj S 1 b 3) (badP (wj a 8 18 t) (fun b => gj S 1 b 3)) (aB a) b).toInt
              rw [s2 b hb]
              exact (gok b hb).imp id And.left)
            have cr1 : CR (sP (sj S 4 0 4 t) (dropF (fun b => gj S 1 b 3) (badP (wj a 8 18 t) (fun b => gj S 1 b 3)) (aB a))) (wP (wj a 8 18 t) g2) ob := h.time.P (fun b hb => by
              rw [if_neg (show ¬ qi (wj a 8 18 t) 8 17 = -1 from hn)]; exact s2 b hb)
            have cr2 := (cr1.uns hi).off hm
            have epr : offA (unsA (wP (wj a 8 18 t) g2) i) = unsA (offA (wP (wj a 8 18 t) g2)) i := by
              unfold offA unsA; exact wi_comm (by omega)
            rw [epr] at cr2
            refine ⟨_, fun post hp => walk8 S ob h post ?_, CR.add cr2 hk.1.2.2.2.2.2.2.1 hR, PR.add (PR_sP _ (PR.sr (PR.sr (PR_sP _ (PR.sj PR.rf rfl)))))⟩
            rw [s1]
            refine ⟨fun _ => ⟨fun _ S12 e12 => ?_, fun c => absurd (show gj S 4 0 3 ≤ t by rw [h.2.2.2.2.2.2.1.2.2.2.1]; exact he) c⟩, fun j e => (by cases e)⟩
            subst e12
            intro S2 e2
            subst e2
            refine c_dropFrom (S := sr (sr (sP (sj S 4 0 4 t) (dropF (fun b => gj S 1 b 3) (badP (wj a 8 18 t) (fun b => gj S 1 b 3)) (aB a))) 5 i 4 (some 4)) 4 0 0 none) (h.1.2.1.trans hk.1.2.2.1) hB (fun b hb => (h.2.2.2.2.1 b hb).1) ?_
            show wp_X2_add (2 : Int32) (gi S 5 i 0) (-1 : Int32) (0 : Int64) (sP (sr (sr (sP (sj S 4 0 4 t) (dropF (fun b => gj S 1 b 3) (badP (wj a 8 18 t) (fun b => gj S 1 b 3)) (aB a))) 5 i 4 (some 4)) 4 0 0 none) (stopF (sr (sP (sj S 4 0 4 t) (dropF (fun b => gj S 1 b 3) (badP (wj a 8 18 t) (fun b => gj S 1 b 3)) (aB a))) 5 i 4 (some 4)) (aB a))) (fun S15 => post (2 : Int32) S15)
            rw [gi0]
            exact c_add (S := sP (sr (sr (sP (sj S 4 0 4 t) (dropF (fun b => gj S 1 b 3) (badP (wj a 8 18 t) (fun b => gj S 1 b 3)) (aB a))) 5 i 4 (some 4)) 4 0 0 none) (stopF (sr (sP (sj S 4 0 4 t) (dropF (fun b => gj S 1 b 3) (badP (wj a 8 18 t) (fun b => gj S 1 b 3)) (aB a))) 5 i 4 (some 4)) (aB a))) (n := aR a) hr hR h3 hp
          · have e17 : gi S 8 0 17 = nI i := by rw [show gi S 8 0 17 = qi (pr S) 8 17 from gi_pr rfl, hS]; exact q1
            have e30 : gi S 8 0 30 = nI (aR a) := by rw [show gi S 8 0 30 = qi (pr S) 8 30 from gi_pr rfl, hS]; exact hk.1.2.2.2.2.2.2.1
            have e19 : gj S 8 0 19 = qj a 8 19 := by rw [show gj S 8 0 19 = qj (pr S) 8 19 from gj_pr rfl, hS]
            refine ⟨si (rNote (si (sQ (sj S 8 0 18 t) g2) 20 0 i 4) (aR a) 2 (nI i) (-1) 0) 8 0 17 (-1), fun post hp => walk9 S hS post (hend _ (prT S hS) post ⟨fun _ => ⟨?_, fun S6 e6 => ?_⟩, fun c => absurd (show gj S 8 0 19 ≤ t by rw [e19]; exact he) c⟩), ?_, CS.si (cs_note (CS.si (cs_sQ _ (csT S)) rfl)) rfl⟩
            · show vp_in (gi S 8 0 17) 60
              rw [e17]; exact vp_in_nI (by omega) (by omega)
            · have e6 : S6 = si (sQ (sj S 8 0 18 t) g2) 20 0 (gi S 8 0 17).toNatClampNeg 4 := e6
              rw [e17, nI_clamp (by omega)] at e6
              subst e6
              show wp_X9_note (2 : Int32) (gi S 8 0 17) (-1 : Int32) (0 : Int64) (si (sQ (sj S 8 0 18 t) g2) 20 0 i 4) (fun S7 => ∀ S8 : St, S8 = si S7 8 0 17 (-1 : Int32) → post (2 : Int32) S8)
              rw [e17]
              exact r_note (S := si (sQ (sj S 8 0 18 t) g2) 20 0 i 4) (n := aR a) e30 (by omega) (fun S8 e8 => by rw [e8]; exact hp)
            · have e1 : pr (si (sQ (sj S 8 0 18 t) g2) 20 0 i 4) = unsA (wP (wj a 8 18 t) g2) i := by
                rw [pr_si rfl, pr_sQ, prT S hS]; rfl
              rw [pr_si rfl, pr_note (by rw [e1]; rfl), e1, note_off]
              have epr : offA (unsA (wP (wj a 8 18 t) g2) i) = unsA (offA (wP (wj a 8 18 t) g2)) i := by
                unfold offA unsA; exact wi_comm (by omega)
              rw [epr]
        · -- still on
          refine ⟨0, wP (wj a 8 18 t) g2, okP, fun S ob h => ?_, fun S hS => ?_⟩
          · obtain ⟨s1, s2⟩ := sm S ob h
            refine ⟨sP (sj S 4 0 4 t) (dropF (fun b => gj S 1 b 3) (badP (wj a 8 18 t) (fun b => gj S 1 b 3)) (aB a)), fun post hp => walk8 S ob h post ?_, h.time.P (fun b hb => by
              rw [if_neg (show ¬ qi (wj a 8 18 t) 8 17 = -1 from hn)]; exact s2 b hb), PR_sP _ (PR.sj PR.rf rfl)⟩
            rw [s1]
            exact ⟨fun _ => ⟨fun c => absurd (show qj a 8 19 ≤ t by rw [← h.2.2.2.2.2.2.1.2.2.2.1]; exact c) he, fun _ => hp⟩, fun j e => (by cases e)⟩
          · have e19 : gj S 8 0 19 = qj a 8 19 := by rw [show gj S 8 0 19 = qj (pr S) 8 19 from gj_pr rfl, hS]
            refine ⟨sQ (sj S 8 0 18 t) g2, fun post hp => walk9 S hS post (hend _ (prT S hS) post ⟨fun c => absurd (show qj a 8 19 ≤ t by rw [← e19]; exact c) he, fun _ => hp⟩), by rw [pr_sQ, prT S hS], cs_sQ _ (csT S)⟩
      · -- sold
        have sm : ∀ S ob, CR S a ob → _ := fun S ob h => same_some (a := wj a 8 18 t) (pS S ob h) ig hf hpay
        obtain ⟨j1, dj, -⟩ := (fstF_spec _ _ _).2 j hf
        have hj : j < aB a := j1
        have gj30 : g2 j = qj a 30 j := (ig j j1).resolve_right (fun z => dj.1 z.1)
        have pj := (gok j hj).resolve_left dj.1
        have hc := prc_Z (a := wj a 8 18 t) ok1 hn pj.1 pj.2
        have okP2 : Ok (offA (wP (wj a 8 18 t) g2)) := okP.off
        have efr : freeV (offA (wP (wj a 8 18 t) g2)) j = freeV (wj a 8 18 t) j := by
          have : freeV (offA (wP (wj a 8 18 t) g2)) j = freeV (wP (wj a 8 18 t) g2) j := by
            unfold freeV
            rw [show aL (offA (wP (wj a 8 18 t) g2)) = aL (wP (wj a 8 18 t) g2) from rfl, heldF_c (a := wP (wj a 8 18 t) g2) (a2 := offA (wP (wj a 8 18 t) g2)) (fun x _ => ⟨rfl, rfl, rfl⟩)]; rfl
          rw [this, freeV_wP]
        obtain ⟨M, hM⟩ : ∃ M, M = mkM (fun o => o ≠ j ∧ g2 o = g2 j ∧ ¬ freeV (wj a 8 18 t) o < prcV (wj a 8 18 t) (g2 j)) (aB a) := ⟨_, rfl⟩
        generalize hC : prcV (wj a 8 18 t) (g2 j) = c at hc hpay hM
        have ok2 : Ok (saleL (offA (wP (wj a 8 18 t) g2)) i j c M) := okP2.sale hi hj q2 rfl hc.1 hc.2 (by rw [efr]; exact j_le.mp hpay)
        have hcap : aR a < capS (saleL (offA (wP (wj a 8 18 t) g2)) i j c M) (aL a) := cap_sale okP2 hi q2
        have hR : aR a < 240 := by
          have := capS_le (saleL (offA (wP (wj a 8 18 t) g2)) i j c M) (aL a); omega
        refine ⟨1, aNote (saleL (offA (wP (wj a 8 18 t) g2)) i j c M) 1 (nI i) (nI j) c, ok2.note (by
          rw [(sale_sa (a := offA (wP (wj a 8 18 t) g2)) (i := i) (b := j) (c := c) (M := M)).n.1, (sale_sa (a := offA (wP (wj a 8 18 t) g2)) (i := i) (b := j) (c := c) (M := M)).n.2.2.2]; exact hcap), fun S ob h => ?_, fun S hS => ?_⟩
        · obtain ⟨s1, s2, -, -, s5⟩ := sm S ob h
          have cr1 : CR (sP (sj S 4 0 4 t) (dropF (fun b => gj S 1 b 3) (badP (wj a 8 18 t) (fun b => gj S 1 b 3)) (aB a))) (wP (wj a 8 18 t) (dropF (fun b => gj S 1 b 3) (badP (wj a 8 18 t) (fun b => gj S 1 b 3)) (aB a))) ob := h.time.P (fun b hb => by
              rw [if_neg (show ¬ qi (wj a 8 18 t) 8 17 = -1 from hn)])
          have hm := stopF_m (S := sP (sj S 4 0 4 t) (dropF (fun b => gj S 1 b 3) (badP (wj a 8 18 t) (fun b => gj S 1 b 3)) (aB a))) (B := aB a) (fun b hb => by
              show dropF (fun b => gj S 1 b 3) (badP (wj a 8 18 t) (fun b => gj S 1 b 3)) (aB a) b = -1 ∨ 0 ≤ (dropF (fun b => gj S 1 b 3) (badP (wj a 8 18 t) (fun b => gj S 1 b 3)) (aB a) b).toInt
              rcases dropF_or (fun b => gj S 1 b 3) (badP (wj a 8 18 t) (fun b => gj S 1 b 3)) (aB a) b with z | z
              · exact Or.inl z
              · rw [z, pS S ob h b hb]
                exact (hk.2.2.2.2.2.1 hn b hb).imp id And.left)
          have hMS : mkM (fun b => b ≠ j ∧ gj (sP (sj S 4 0 4 t) (dropF (fun b => gj S 1 b 3) (badP (wj a 8 18 t) (fun b => gj S 1 b 3)) (aB a))) 1 b 3 = gj (sP (sj S 4 0 4 t) (dropF (fun b => gj S 1 b 3) (badP (wj a 8 18 t) (fun b => gj S 1 b 3)) (aB a))) 1 j 3) (aB a) = M := by
            rw [hM]
            exact mkM_c (fun b hb => and_congr_right (fun _ => by
              have := s5 b hb
              rw [hC] at this
              exact this))
          have hcS : prcV (wP (wj a 8 18 t) (dropF (fun b => gj S 1 b 3) (badP (wj a 8 18 t) (fun b => gj S 1 b 3)) (aB a))) (gj (sP (sj S 4 0 4 t) (dropF (fun b => gj S 1 b 3) (badP (wj a 8 18 t) (fun b => gj S 1 b 3)) (aB a))) 1 j 3) = c := by
            show prcV (wj a 8 18 t) (dropF (fun b => gj S 1 b 3) (badP (wj a 8 18 t) (fun b => gj S 1 b 3)) (aB a) j) = c
            rw [← hC]
            exact congrArg _ s2
          have cr2 := (cr1.sale (b := j) (c := c) (M := M) hi).off (f := stopF (sP (sj S 4 0 4 t) (dropF (fun b => gj S 1 b 3) (badP (wj a 8 18 t) (fun b => gj S 1 b 3)) (aB a))) (aB a)) (fun b hb => hm b hb)
          have cr3 := cr2.P (f := stopF (sP (sj S 4 0 4 t) (dropF (fun b => gj S 1 b 3) (badP (wj a 8 18 t) (fun b => gj S 1 b 3)) (aB a))) (aB a)) (g := g2) (fun b hb => (hm b hb).trans (if_pos rfl).symm)
          rw [sP_sP, off_P, sale_P, wP_wP, sale_off] at cr3
          have hR3 : aR (saleL (offA (wP (wj a 8 18 t) g2)) i j c M) = aR a := (sale_sa (a := offA (wP (wj a 8 18 t) g2)) (i := i) (b := j) (c := c) (M := M)).n.2.2.2
          have cr4 := CR.add (so := 1) (lo := nI i) (bu := nI j) (ce := c) cr3 ok2.1.2.2.2.2.2.2.1 (by rw [hR3]; exact hR)
          rw [hR3] at cr4
          refine ⟨_, fun post hp => walk8 S ob h post ?_, cr4, PR.add (PR_sP _ (PR.sr ?_))⟩
          · rw [show fstF (dropF (fun b => gj S 1 b 3) (badP (wj a 8 18 t) (fun b => gj S 1 b 3)) (aB a)) t (aB a) = some j from s1]
            refine ⟨fun c => (by cases c), fun j2 e => ?_⟩
            cases e
            exact c_sellByClock cr1 ok1.1.P hi hj hMS hcS hR hp
          · unfold saleS
            exact PR.sj (PR.si (PR.sr (PR.si (PR.si (PR_sP _ (PR.sj PR.rf rfl)) rfl) rfl)) rfl) rfl
        · have e1 : pr (sQ (sj S 8 0 18 t) g2) = wP (wj a 8 18 t) g2 := by rw [pr_sQ, prT S hS]
          refine ⟨rNote (si (si (sj (si (si (si (sQ (sj S 8 0 18 t) g2) 27 0 i M) 20 0 i 3) 21 0 i (nI j)) 22 0 i c) 23 0 i 1) 8 0 17 (-1)) (aR a) 1 (nI i) (nI j) c, fun post hp => walk9 S hS post (hend _ (prT S hS) post ?_), ?_, cs_note (CS.si (CS.si (CS.sj (CS.si (CS.si (CS.si (cs_sQ _ (csT S)) rfl) rfl) rfl) rfl) rfl) rfl)⟩
          · have hC2 : prcV (wP (wj a 8 18 t) g2) (g2 j) = c := hC
            refine r_sell (S := sQ (sj S 8 0 18 t) g2) (i := i) (j := j) (t := g2 j) (M := M) (by rw [e1]; exact okP.1) (by rw [e1]; exact okP.2.1) (by rw [e1]; exact hj) (by rw [e1]; exact hi) (by rw [e1]; exact q1) (by rw [e1]; rfl) ?_ ?_
            · rw [e1, hC2, hM]
              refine mkM_c (fun o ho => ?_)
              rw [freeV_wP]
              exact Iff.rfl
            · rw [e1, hC2]
              exact hp
          · have e2 : pr (si (si (sj (si (si (si (sQ (sj S 8 0 18 t) g2) 27 0 i M) 20 0 i 3) 21 0 i (nI j)) 22 0 i c) 23 0 i 1) 8 0 17 (-1)) = offA (saleL (wP (wj a 8 18 t) g2) i j c M) := by
              rw [pr_si rfl, pr_si rfl, pr_sj rfl, pr_si rfl, pr_si rfl, pr_si rfl, e1]; rfl
            rw [sale_off] at e2
            rw [pr_note (by rw [e2]; exact (sale_sa (a := offA (wP (wj a 8 18 t) g2)) (i := i) (b := j) (c := c) (M := M)).n.2.2.2), e2]
    · refine ⟨0, a, hk, ClR.ro (fun S ob h post hp => ?_), RfR.ro (fun S hS post hp => ?_)⟩
      · obtain ⟨k1, k2, k3, k4, k5, k6, k7⟩ := h.2.2.2.2.2.2.1
        rw [if_neg hn] at k1
        exact ⟨fun c => (by rw [k1] at c; cases c), fun j e => ⟨fun c => absurd (k6.symm.trans c) hs, fun _ => hp⟩⟩
      · subst hS
        exact ⟨fun _ => ⟨fun c => absurd ((gi_pr rfl).symm.trans c) hs, fun _ => hp⟩, fun c => absurd ((gi_pr rfl).symm.trans c) hn⟩
