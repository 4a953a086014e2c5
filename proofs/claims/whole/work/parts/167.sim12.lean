theorem sj1_P (S : St) (b : Nat) (v : Int64) : sj S 1 b 3 v = sP S (fun j => if j = b then v else gj S 1 j 3) := by
  have := sP_sj S (fun b => gj S 1 b 3) b v
  rw [sP_id] at this
  exact this
theorem wj30_P (a : RS) (b : Nat) (v : Int64) : wj a 30 b v = wP a (fun j => if j = b then v else qj a 30 j) := by
  refine Prod.ext rfl ?_
  funext x y
  show (if x = 30 ∧ y = b then v else a.2 x y) = if x = 30 then (if y = b then v else a.2 30 y) else a.2 x y
  by_cases e : x = 30
  · subst e
    by_cases e2 : y = b
    · rw [if_pos ⟨rfl, e2⟩, if_pos rfl, if_pos e2]
    · rw [if_neg (fun q => e2 q.2), if_pos rfl, if_neg e2]
  · rw [if_neg (fun q => e q.1), if_neg e]
theorem s_press (p : Int32) (w : Int64) {a : RS} (hk : Ok a) : Sim (wp_X8_press p w) (wp_X9_press p w) a := by
  have hB := hk.1.2.2.2.1
  rcases ix_or p (aB a) (by omega) with ⟨b, hb, rfl⟩ | hn
  · have inb : vp_in (nI b) 30 := vp_in_nI (by omega) (by omega)
    have ro : (∀ S ob, CR S a ob → ∀ post, post 0 S → wp_X8_press (nI b) w S post) → (∀ S, pr S = a → ∀ post, post 0 S → wp_X9_press (nI b) w S post) → Sim (wp_X8_press (nI b) w) (wp_X9_press (nI b) w) a := fun h8 h9 => ⟨0, a, hk, ClR.ro h8, RfR.ro h9⟩
    by_cases hc : qi a 8 17 = -1
    · refine ro (fun S ob h post hp => ?_) (fun S hS post hp => ?_)
      · refine c_buyerAtI h hk.1 hb ⟨fun c => (by cases c), fun j e => ?_⟩
        rw [h.2.2.2.2.2.2.1.1, if_pos hc]
        exact ⟨fun _ => hp, fun j e => (by cases e)⟩
      · subst hS
        refine r_isBuyerI hk.1 hb ⟨fun c => absurd c (by decide), fun _ => ?_⟩
        exact ⟨fun _ => hp, fun c => absurd ((gi_pr rfl).trans hc) c⟩
    · have e4 : ∀ S ob, CR S a ob → gr S 4 0 0 = some (qi a 8 17).toNatClampNeg := fun S ob h => by rw [h.2.2.2.2.2.2.1.1, if_neg hc]
      by_cases hs : qi a 8 22 = 0
      · by_cases hw : (0 : Int64) ≤ w ∧ w ≤ (20000000 : Int64)
        · have okP := hk.2.2.2.2.2.1 hc b hb
          have okB := hk.2.2.2.2.1 b hb
          have w0 : 0 ≤ w.toInt := j_le.mp hw.1
          have w1 : w.toInt ≤ 20000000 := j_le.mp hw.2
          have es : (w - qj a 29 b).toInt = w.toInt - (qj a 29 b).toInt := j_sub (by omega) (by omega)
          have v0 : 0 ≤ ((if w - qj a 29 b < (0 : Int64) then (0 : Int64) else w - qj a 29 b)).toInt := by
            split
            · exact Int.le_refl _
            · rename_i q; have := j_le.mp (Int64.not_lt.mp q); exact this
          have vlo : w ≤ qj a 29 b → (if w - qj a 29 b < (0 : Int64) then (0 : Int64) else w - qj a 29 b) = 0 := by
            intro q
            have q := j_le.mp q
            split
            · rfl
            · rename_i q2
              have q2 : 0 ≤ (w - qj a 29 b).toInt := j_le.mp (Int64.not_lt.mp q2)
              exact j_inj.mp (show _ = (0 : Int) by omega)
          have vhi : ¬ w ≤ qj a 29 b → (if w - qj a 29 b < (0 : Int64) then (0 : Int64) else w - qj a 29 b) = w - qj a 29 b := by
            intro q
            have q : (qj a 29 b).toInt < w.toInt := j_lt.mp (Int64.not_le.mp q)
            exact if_neg (fun q2 => by have q2 : (w - qj a 29 b).toInt < 0 := j_lt.mp q2; omega)
          generalize hV : (if w - qj a 29 b < (0 : Int64) then (0 : Int64) else w - qj a 29 b) = v at v0 vlo vhi
          have refl8 : ∀ S ob, CR S a ob → ∀ post : Int32 → St → Prop, (qj a 8 19 ≤ v → post 0 S) → (¬ qj a 8 19 ≤ v → (qj a 30 b = (-1 : Int64) → post 1 (sj S 1 b 3 v)) ∧ (¬ qj a 30 b = (-1 : Int64) → (v < qj a 30 b → post 1 (sj S 1 b 3 v)) ∧ (¬ v < qj a 30 b → post 0 S))) → wp_X8_press (nI b) w S post := by
            intro S ob h post f1 f2
            obtain ⟨-, -, cb1, cb2⟩ := h.2.2.2.2.1 b hb
            obtain ⟨k1, k2, k3, k4, k5, k6, k7⟩ := h.2.2.2.2.2.2.1
            have cp3 : gj S 1 b 3 = qj a 30 b := by rw [h.2.2.2.2.2.1 b hb, if_neg hc]
            refine c_buyerAtI h hk.1 hb ⟨fun c => (by cases c), fun j e => ?_⟩
            cases e
            refine ⟨fun c => (by rw [e4 S ob h] at c; cases c), fun j5 e5 => ⟨fun c => absurd (k6.trans hs) c, fun _ => c_isWithin (fun _ _ => ⟨fun _ v9 e9 => ?_, fun c => absurd c (by decide)⟩) (fun c => absurd c (fun q => q.elim (Int64.not_lt.mpr hw.1) (Int64.not_lt.mpr hw.2)))⟩⟩
            rw [cb2] at e9
            have e9 : v9 = v := e9.trans hV
            subst e9
            rw [k4]
            refine ⟨f1, fun c => ?_⟩
            have f2 := f2 c
            rw [← cp3] at f2
            refine ⟨fun q => ⟨fun _ S13 e => (by subst e; exact f2.1 q), fun c => absurd rfl c⟩, fun q => ⟨fun q2 => ⟨fun _ S13 e => (by subst e; exact (f2.2 q).1 q2), fun c => absurd rfl c⟩, fun q2 => ⟨fun c => absurd c (by decide), fun _ => (f2.2 q).2 q2⟩⟩⟩
          have refl9 : ∀ S, pr S = a → ∀ post : Int32 → St → Prop, (qj a 8 19 ≤ v → post 0 S) → (¬ qj a 8 19 ≤ v → (qj a 30 b = (-1 : Int64) → post 1 (sj S 30 0 b v)) ∧ (¬ qj a 30 b = (-1 : Int64) → (v < qj a 30 b → post 1 (sj S 30 0 b v)) ∧ (¬ v < qj a 30 b → post 0 S))) → wp_X9_press (nI b) w S post := by
            intro S hS post f1 f2
            clear refl8 e4 ro
            subst hS
            refine r_isBuyerI hk.1 hb ⟨fun c => absurd c (by decide), fun _ => ?_⟩
            rw [nI_clamp (by omega), show gi S 8 0 17 = qi (pr S) 8 17 from gi_pr rfl, show gi S 8 0 22 = qi (pr S) 8 22 from gi_pr rfl, show gj S 8 0 19 = qj (pr S) 8 19 from gj_pr rfl, show gj S 29 0 b = qj (pr S) 29 b from gj_pr rfl, show gj S 30 0 b = qj (pr S) 30 b from gj_pr rfl]
            refine ⟨fun c => absurd c hc, fun _ => ⟨fun c => absurd hs c, fun _ => ⟨fun c => absurd c (Int64.not_lt.mpr hw.1), fun _ => ⟨fun _ => ⟨inb, fun c => ?_, fun c => ⟨inb, fun v11 e11 => ?_⟩⟩, fun c => absurd hw.2 c⟩⟩⟩⟩
            · have ev := vlo c
              subst ev
              refine ⟨f1, fun c => ?_⟩
              have f2 := f2 c
              exact ⟨inb, fun q => ⟨inb, fun S6 e => by subst e; exact f2.1 q⟩, fun q => ⟨inb, fun q2 => ⟨inb, fun S6 e => by subst e; exact (f2.2 q).1 q2⟩, fun q2 => (f2.2 q).2 q2⟩⟩
            · have ev : v11 = v := e11.trans (vhi c).symm
              subst ev
              refine ⟨f1, fun c => ?_⟩
              have f2 := f2 c
              exact ⟨inb, fun q => ⟨inb, fun S6 e => by subst e; exact f2.1 q⟩, fun q => ⟨inb, fun q2 => ⟨inb, fun S6 e => by subst e; exact (f2.2 q).1 q2⟩, fun q2 => (f2.2 q).2 q2⟩⟩
          by_cases hset : ¬ qj a 8 19 ≤ v ∧ (qj a 30 b = (-1 : Int64) ∨ v < qj a 30 b)
          · have v1 : v.toInt < (qj a 8 19).toInt := j_lt.mp (Int64.not_le.mp hset.1)
            refine ⟨1, wj a 30 b v, ?_, fun S ob h => ⟨sj S 1 b 3 v, fun post hp => refl8 S ob h post (fun c => absurd c hset.1) (fun _ => ⟨fun _ => hp, fun q => ⟨fun _ => hp, fun q2 => absurd hset.2 (fun z => z.elim q q2)⟩⟩), ?_, PR.sj PR.rf rfl⟩, fun S hS => ⟨sj S 30 0 b v, fun post hp => refl9 S hS post (fun c => absurd c hset.1) (fun _ => ⟨fun _ => hp, fun q => ⟨fun _ => hp, fun q2 => absurd hset.2 (fun z => z.elim q q2)⟩⟩), by rw [pr_sj rfl, hS], CS.sj CS.rf rfl⟩⟩
            · rw [wj30_P]
              refine hk.P (fun _ x hx => ?_)
              show (if x = b then v else qj a 30 x) = -1 ∨ (0 ≤ (if x = b then v else qj a 30 x).toInt ∧ (if x = b then v else qj a 30 x).toInt < (qj a 8 19).toInt)
              by_cases q : x = b
              · rw [if_pos q]; exact Or.inr ⟨v0, v1⟩
              · rw [if_neg q]; exact hk.2.2.2.2.2.1 hc x hx
            · rw [wj30_P, sj1_P]
              refine h.P (fun x hx => ?_)
              rw [if_neg hc]
              show (if x = b then v else gj S 1 x 3) = (if x = b then v else qj a 30 x)
              rw [h.2.2.2.2.2.1 x hx, if_neg hc]
          · have hset : ¬ qj a 8 19 ≤ v → (¬ qj a 30 b = (-1 : Int64)) ∧ ¬ v < qj a 30 b := fun c => ⟨fun q => hset ⟨c, Or.inl q⟩, fun q => hset ⟨c, Or.inr q⟩⟩
            refine ro (fun S ob h post hp => refl8 S ob h post (fun _ => hp) (fun c => ⟨fun q => absurd q (hset c).1, fun _ => ⟨fun q => absurd q (hset c).2, fun _ => hp⟩⟩)) (fun S hS post hp => refl9 S hS post (fun _ => hp) (fun c => ⟨fun q => absurd q (hset c).1, fun _ => ⟨fun q => absurd q (hset c).2, fun _ => hp⟩⟩))
        · refine ro (fun S ob h post hp => ?_) (fun S hS post hp => ?_)
          · refine c_buyerAtI h hk.1 hb ⟨fun c => (by cases c), fun j e => ?_⟩
            exact ⟨fun c => (by rw [e4 S ob h] at c; cases c), fun j5 e5 => ⟨fun c => hp, fun _ => c_isWithin (fun b1 b2 => absurd ⟨b1, b2⟩ hw) (fun _ => ⟨fun c => absurd rfl c, fun _ => hp⟩)⟩⟩
          · subst hS
            refine r_isBuyerI hk.1 hb ⟨fun c => absurd c (by decide), fun _ => ?_⟩
            exact ⟨fun _ => hp, fun _ => ⟨fun _ => hp, fun _ => ⟨fun _ => hp, fun b1 => ⟨fun b2 => absurd ⟨Int64.not_lt.mp b1, b2⟩ hw, fun _ => hp⟩⟩⟩⟩
      · refine ro (fun S ob h post hp => ?_) (fun S hS post hp => ?_)
        · have k6 := h.2.2.2.2.2.2.1.2.2.2.2.2.1
          refine c_buyerAtI h hk.1 hb ⟨fun c => (by cases c), fun j e => ?_⟩
          exact ⟨fun c => (by rw [e4 S ob h] at c; cases c), fun j5 e5 => ⟨fun c => hp, fun c => absurd (k6.symm.trans c) hs⟩⟩
        · subst hS
          refine r_isBuyerI hk.1 hb ⟨fun c => absurd c (by decide), fun _ => ?_⟩
          exact ⟨fun _ => hp, fun _ => ⟨fun _ => hp, fun c => absurd ((gi_pr rfl).symm.trans c) hs⟩⟩
  · refine ⟨0, a, hk, ClR.ro (fun S ob h post hp => ?_), RfR.ro (fun S hS post hp => ?_)⟩
    · refine c_buyerAtN h hk.1 hn ?_
      exact ⟨fun _ => hp, fun j e => (by cases e)⟩
    · subst hS
      refine r_isBuyerN hk.1 hn ?_
      exact ⟨fun _ => hp, fun c => absurd rfl c⟩
def agaA (a : RS) (i : Nat) (R : Int64) : RS := wj (wi (wi a 25 i 1) 20 i 0) 19 i R
theorem aga_q {a : RS} {i : Nat} {R : Int64} : qi (agaA a i R) 20 i = 0 ∧ sT (agaA a i R) i = 0 ∧ qi (agaA a i R) 25 i = 1 ∧ qj (agaA a i R) 19 i = R := by
  have e : qi (agaA a i R) 20 i = 0 := by unfold agaA; rw [qi_wj, qi_wi, if_pos ⟨rfl, rfl⟩]
  refine ⟨e, by unfold sT; rw [e]; rfl, ?_, ?_⟩
  · unfold agaA; rw [qi_wj, qi_wi, if_neg (by omega), qi_wi, if_pos ⟨rfl, rfl⟩]
  · unfold agaA; rw [qj_wj, if_pos ⟨rfl, rfl⟩]
theorem aga_sa {a : RS} {i : Nat} {R : Int64} : SA a (agaA a i R) i := SA.j (SA.i (SA.i SA.rf (by omega)) (by omega)) (by omega)
theorem Ok.aga {a : RS} (h : Ok a) {i : Nat} {R : Int64} (hi : i < aL a) (hs : sT a i = 4) (h25 : qi a 25 i = 0) (r0 : 0 ≤ R.toInt) (r1 : R.toInt ≤ 1000000000) : Ok (agaA a i R) := by
  have okl := h.2.1 i hi
  obtain ⟨e1, e2, e3, e4⟩ := aga_q (a := a) (i := i) (R := R)
  refine Ok.lot h hi aga_sa (h.on1 hi (by omega)) ?_ ?_ ?_ ?_ ?_
  · rw [e1, e2, e3, e4]
    refine ⟨rfl, by omega, okl.2.2.1, okl.2.2.2.1, Or.inr rfl, ?_, ?_, r0, r1⟩
    · have : qj (agaA a i R) 18 i = qj a 18 i := by unfold agaA; rw [qj_wj, if_neg (by omega)]; rfl
      rw [this]; exact okl.2.2.2.2.2.1
    · have : qj (agaA a i R) 18 i = qj a 18 i := by unfold agaA; rw [qj_wj, if_neg (by omega)]; rfl
      rw [this]; exact okl.2.2.2.2.2.2.1
  · rw [e2]
    refine ⟨fun c => absurd c (by omega), fun c => ?_⟩
    have := ((h.2.2.1 i hi).2 c).1
    omega
  · rw [e2]; exact fun c => absurd c (by omega)
  · intro b hb
    rw [hvZ_off (a := a) (by omega), hvZ_off (a := agaA a i R) (by rw [e2]; omega)]
    have := (h.2.2.2.2.1 b hb).2.2.2.2
    omega
  · unfold capA
    rw [e2, e3, hs, h25]
    simp
theorem s_again (p : Int32) {a : RS} (hk : Ok a) : Sim (wp_X8_again p) (wp_X9_again p) a := by
  have hL := hk.1.2.1
  rcases ix_or p (aL a) (by omega) with ⟨i, hi, rfl⟩ | hn
  · have ini : vp_in (nI i) 60 := vp_in_nI (by omega) (by omega)
    have e4 := st_eq (k := 4) hk.2.1 hi (by omega)
    by_cases hs : sT a i = 4 ∧ qi a 25 i = 0
    · obtain ⟨hs, h25⟩ := hs
      have okl := hk.2.1 i hi
      have rd : (qj a 19 i / (10 : Int64)).toInt = (qj a 19 i).toInt / 10 := j_div okl.2.2.2.2.2.2.2.1 (by decide)
      have rv : (qj a 19 i - qj a 19 i / (10 : Int64)).toInt = (qj a 19 i).toInt - (qj a 19 i).toInt / 10 := by
        rw [← rd]; exact j_sub (by omega) (by omega)
      have r0 : 0 ≤ (qj a 19 i - qj a 19 i / (10 : Int64)).toInt := by omega
      have r1 : (qj a 19 i - qj a 19 i / (10 : Int64)).toInt ≤ 1000000000 := by omega
      generalize hR : qj a 19 i - qj a 19 i / (10 : Int64) = R at r0 r1
      have hcap : aR a < capS (agaA a i R) (aL a) := cap_again (R := R) hk hi hs h25
      have hR2 : aR a < 240 := hk.r239 hcap
      refine ⟨1, aNote (agaA a i R) 6 (nI i) (-1) R, (hk.aga hi hs h25 r0 r1).note hcap, fun S ob h => ?_, fun S hS => ?_⟩
      · obtain ⟨-, -, -, -, es, est, -, -, e10, -⟩ := h.2.1 i hi
        have d1 : gi S 2 0 1 = nI (aR a) := h.2.2.2.2.2.2.2.2.2.1.trans hk.1.2.2.2.2.2.2.1
        have d3 : gn S 3 = aR a := h.1.2.2.2.2.2.1
        refine ⟨cAdd (sr (sj (si S 5 i 10 1) 5 i 3 R) 5 i 4 (some 0)) (aR a) 6 (nI i) (-1) R, fun post hp => ?_, CR.add (key_again h hk hi hs h25 r0 r1).1 hk.1.2.2.2.2.2.2.1 hR2, PR.add (PR.sr (PR.sj (PR.si PR.rf rfl) rfl))⟩
        refine c_lotAtI h hk.1 hi ⟨fun c => (by cases c), fun j e => ?_⟩
        cases e
        rw [est, hs, e10, h25]
        refine ⟨fun c => absurd rfl c, fun _ => ⟨fun _ S5 e5 S6 e6 S7 e7 => ?_, fun c => absurd rfl c⟩⟩
        have a5 : gj S5 5 i 3 = qj a 19 i := by rw [e5]; exact es
        rw [a5, hR] at e6
        have a7 : gj S7 5 i 3 = R := by rw [e7, e6, gj_sr, gj_sj]; exact if_pos ⟨rfl, rfl, rfl⟩
        rw [a7]
        subst e5; subst e6; subst e7
        exact c_add (S := sr (sj (si S 5 i 10 1) 5 i 3 R) 5 i 4 (some 0)) (n := aR a) d1 hR2 d3 hp
      · have t1 : gi S 20 0 i = nI 4 := by rw [show gi S 20 0 i = qi (pr S) 20 i from gi_pr rfl, hS]; exact e4.mpr hs
        have t2 : gi S 25 0 i = 0 := by rw [show gi S 25 0 i = qi (pr S) 25 i from gi_pr rfl, hS]; exact h25
        have t3 : gi S 8 0 30 = nI (aR a) := by rw [show gi S 8 0 30 = qi (pr S) 8 30 from gi_pr rfl, hS]; exact hk.1.2.2.2.2.2.2.1
        have t4 : gj S 19 0 i = qj a 19 i := by rw [show gj S 19 0 i = qj (pr S) 19 i from gj_pr rfl, hS]
        refine ⟨rNote (sj (si (si S 25 0 i 1) 20 0 i 0) 19 0 i R) (aR a) 6 (nI i) (-1) R, fun post hp => ?_, ?_, cs_note (CS.sj (CS.si (CS.si CS.rf rfl) rfl) rfl)⟩
        · refine r_isLotI (hS ▸ hk.1) (hS ▸ hi) ⟨fun c => absurd c (by decide), fun _ => ⟨ini, ?_⟩⟩
          rw [nI_clamp (by omega), t1, t2]
          refine ⟨fun c => absurd rfl c, fun _ => ⟨ini, fun _ => ⟨ini, fun S6 e6 => ⟨ini, fun S8 e8 => ⟨ini, ini, ini, fun S12 e12 => ⟨ini, ?_⟩⟩⟩⟩, fun c => absurd rfl c⟩⟩
          have a8 : gj S8 19 0 i = qj a 19 i := by rw [e8, e6]; exact t4
          rw [a8, hR] at e12
          have a12 : gj S12 19 0 i = R := by rw [e12, gj_sj]; exact if_pos ⟨rfl, rfl, rfl⟩
          have b12 : gi S12 8 0 30 = nI (aR a) := by rw [e12, e8, e6]; exact t3
          rw [a12]
          refine r_note b12 (by omega) ?_
          rw [e12, e8, e6]
          exact hp
        · have eq : pr (sj (si (si S 25 0 i 1) 20 0 i 0) 19 0 i R) = agaA a i R := by rw [pr_sj rfl, pr_si rfl, pr_si rfl, hS]; rfl
          rw [pr_note (by rw [eq]; rfl), eq]
    · refine ⟨-1, a, hk, ClR.ro (fun S ob h post hp => ?_), RfR.ro (fun S hS post hp => ?_)⟩
      · obtain ⟨-, -, -, -, es, est, -, -, e10, -⟩ := h.2.1 i hi
        refine c_lotAtI h hk.1 hi ⟨fun c => (by cases c), fun j e => ?_⟩
        cases e
        rw [est, e10]
        exact ⟨fun _ => hp, fun c => ⟨fun c2 => absurd ⟨Option.some.inj c, c2⟩ hs, fun _ => hp⟩⟩
      · subst hS
        refine r_isLotI hk.1 hi ⟨fun c => absurd c (by decide), fun _ => ⟨ini, ?_⟩⟩
        rw [nI_clamp (by omega), show gi S 20 0 i = qi (pr S) 20 i from gi_pr rfl, show gi S 25 0 i = qi (pr S) 25 i from gi_pr rfl]
        exact ⟨fun _ => hp, fun c => ⟨ini, fun c2 => absurd ⟨e4.mp c, c2⟩ hs, fun _ => hp⟩⟩
  · refine ⟨-1, a, hk, ClR.ro (fun S ob h post hp => ?_), RfR.ro (fun S hS post hp => ?_)⟩
    · refine c_lotAtN h hk.1 hn ?_
      exact ⟨fun _ => hp, fun j e => (by cases e)⟩
    · subst hS
      refine r_isLotN hk.1 hn ?_
      exact ⟨fun _ => hp, fun c => absurd rfl c⟩
