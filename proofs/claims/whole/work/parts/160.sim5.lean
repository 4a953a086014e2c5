theorem nI_m1 {i : Nat} (h : i < 2 ^ 31) : ¬ nI i = -1 := fun z => by
  have := congrArg Int32.toInt z
  rw [nI_toInt h] at this
  exact absurd this (by rw [show (-1 : Int32).toInt = -1 from rfl]; omega)
theorem heldZ_ge {a : RS} {b i n : Nat} (h : ∀ j, j < n → 0 ≤ hvZ a b j) (hi : i < n) : hvZ a b i ≤ heldZ a b n := by
  induction n with
  | zero => omega
  | succ n ih =>
    rw [heldZ_s]
    by_cases e : i = n
    · subst e
      have := heldZ_nn (a := a) (b := b) (n := i) (fun j hj => h j (by omega))
      omega
    · have := ih (fun j hj => h j (by omega)) (by omega)
      have := h n (by omega)
      omega
theorem Ok.price {a : RS} (h : Ok a) {i : Nat} (hi : i < aL a) (hs : sT a i = 2 ∨ sT a i = 3) : 0 ≤ (qj a 22 i).toInt ∧ (qj a 22 i).toInt ≤ 1000000000000 := by
  refine ⟨(h.2.2.1 i hi).1 hs, ?_⟩
  obtain ⟨b, hb, eb⟩ := h.2.2.2.2.2.2.2.1.2.2 i hi hs
  have h1 := heldZ_ge (b := b) (fun j hj => h.h0 hj b) hi
  rw [hvZ_on hs.symm, if_pos eb] at h1
  have := h.2.2.2.2.1 b hb
  omega
theorem Ok.on1 {a : RS} (h : Ok a) {i : Nat} (hi : i < aL a) (hs : sT a i ≠ 1) : qi a 8 17 ≠ nI i := by
  intro c
  have hL := h.1.2.1
  rcases h.2.2.2.1.2.2 with q | ⟨x, hx, q1, q2, -⟩
  · exact nI_m1 (i := i) (by omega) (c.symm.trans q)
  · have := (nI_eq (by omega) (by omega)).mp (q1.symm.trans c)
    subst this
    exact hs q2
def leastV (a : RS) (i : Nat) : Int64 := if sT a i = 2 then qj a 22 i + (if qj a 22 i / (20 : Int64) < (1 : Int64) then (1 : Int64) else qj a 22 i / (20 : Int64)) else qj a 19 i
def ownV (a : RS) (i b : Nat) : Int64 := if sT a i = 2 ∧ qi a 21 i = nI b then qj a 22 i else 0
def riseA (a : RS) (i b : Nat) (c : Int64) : RS := wj (wj (wi (wi a 20 i 2) 21 i (nI b)) 22 i c) 26 i (qj a 8 16)
theorem Ok.rise {a : RS} (h : Ok a) {i b : Nat} {c : Int64} (hi : i < aL a) (hb : b < aB a) (hs : sT a i = 0 ∨ sT a i = 2) (h1 : leastV a i ≤ c) (h2 : c ≤ (qj a 28 b - heldF a b (aL a)) + ownV a i b) : Ok (riseA a i b c) := by
  have okl := h.2.1 i hi
  have hB := h.1.2.2.2.1
  have ho := h.2.2.2.2.1 b hb
  have hge := heldZ_ge (b := b) (fun j hj => h.h0 hj b) hi
  have hnn := h.h0 hi b
  have eo : (ownV a i b).toInt = hvZ a b i := by
    unfold ownV
    rcases hs with q | q
    · rw [if_neg (by omega), hvZ_off (by omega)]; rfl
    · by_cases e : qi a 21 i = nI b
      · rw [if_pos ⟨q, e⟩, hvZ_on (Or.inr q), if_pos e]
      · rw [if_neg (fun z => e z.2), hvZ_on (Or.inr q), if_neg e]; rfl
  have ef := free_Z h hb
  have es : ((qj a 28 b - heldF a b (aL a)) + ownV a i b).toInt = (qj a 28 b).toInt - heldZ a b (aL a) + hvZ a b i := by
    rw [j_add (by rw [ef, eo]; omega) (by rw [ef, eo]; omega), ef, eo]
  have c1 := j_le.mp h2
  rw [es] at c1
  have c0 : 0 ≤ c.toInt := by
    have c2 := j_le.mp h1
    unfold leastV at c2
    rcases hs with q | q
    · rw [if_neg (by omega)] at c2
      have := okl.2.2.2.2.2.2.2.1
      omega
    · rw [if_pos q] at c2
      obtain ⟨p0, p1⟩ := h.price hi (Or.inl q)
      have ed : (qj a 22 i / (20 : Int64)).toInt = (qj a 22 i).toInt / 20 := j_div p0 (by decide)
      have em : 0 ≤ (if qj a 22 i / (20 : Int64) < (1 : Int64) then (1 : Int64) else qj a 22 i / (20 : Int64)).toInt ∧ (if qj a 22 i / (20 : Int64) < (1 : Int64) then (1 : Int64) else qj a 22 i / (20 : Int64)).toInt ≤ 1000000000000 := by
        split
        · exact ⟨by decide, by decide⟩
        · rw [ed]; omega
      rw [j_add (by omega) (by omega)] at c2
      omega
  have e20 : sT (riseA a i b c) i = 2 := by unfold riseA; rw [sT_wj, sT_wj, sT_wi, if_neg (by omega), sT_wi, if_pos ⟨rfl, rfl⟩]; rfl
  have e21 : qi (riseA a i b c) 21 i = nI b := by unfold riseA; rw [qi_wj, qi_wj, qi_wi, if_pos ⟨rfl, rfl⟩]
  have e22 : qj (riseA a i b c) 22 i = c := by unfold riseA; rw [qj_wj, if_neg (by omega), qj_wj, if_pos ⟨rfl, rfl⟩]
  refine Ok.lot h hi (SA.j (SA.j (SA.i (SA.i SA.rf (by omega)) (by omega)) (by omega)) (by omega)) (h.on1 hi (by omega)) ?_ ?_ ?_ ?_ ?_
  · show qi (riseA a i b c) 20 i = nI (sT (riseA a i b c) i) ∧ sT (riseA a i b c) i < 6 ∧ _
    rw [e20]
    refine ⟨?_, by omega, okl.2.2⟩
    unfold riseA
    rw [qi_wj, qi_wj, qi_wi, if_neg (by omega), qi_wi, if_pos ⟨rfl, rfl⟩]; rfl
  · show ((sT (riseA a i b c) i = 2 ∨ sT (riseA a i b c) i = 3) → 0 ≤ (qj (riseA a i b c) 22 i).toInt) ∧ (qi (riseA a i b c) 23 i = 1 → sT (riseA a i b c) i = 3 ∧ (qj (riseA a i b c) 22 i).toInt ≤ 1000000000)
    rw [e22]
    refine ⟨fun _ => c0, fun z => ?_⟩
    have := ((h.2.2.1 i hi).2 z).1
    omega
  · intro _
    exact ⟨b, hb, e21⟩
  · intro b2 hb2
    show heldZ a b2 (aL a) - hvZ a b2 i + hvZ (riseA a i b c) b2 i ≤ (qj a 28 b2).toInt
    rw [hvZ_on (a := riseA a i b c) (Or.inr e20), e21, e22]
    have hb2' := h.2.2.2.2.1 b2 hb2
    have := h.h0 hi b2
    by_cases e : nI b = nI b2
    · have := (nI_eq (by omega) (by omega)).mp e
      subst this
      rw [if_pos rfl]; omega
    · rw [if_neg e]; omega
  · show capA a i ≤ capA (riseA a i b c) i
    have e25 : qi (riseA a i b c) 25 i = qi a 25 i := rfl
    unfold capA
    rw [e20, e25]
    rcases hs with q | q <;> rw [q] <;> exact Nat.le_refl _
theorem CR.rise {S : St} {a : RS} {ob i b : Nat} {c : Int64} (h : CR S a ob) (hi : i < aL a) : CR (sj (sj (si (sr S 5 i 4 (some 2)) 5 i 5 (nI b)) 5 i 6 c) 5 i 7 (qj a 8 16)) (riseA a i b c) ob := by
  have row := h.2.1 i hi
  have e20 : sT (riseA a i b c) i = 2 := by unfold riseA; rw [sT_wj, sT_wj, sT_wi, if_neg (by omega), sT_wi, if_pos ⟨rfl, rfl⟩]; rfl
  have e21 : qi (riseA a i b c) 21 i = nI b := by unfold riseA; rw [qi_wj, qi_wj, qi_wi, if_pos ⟨rfl, rfl⟩]
  have e22 : qj (riseA a i b c) 22 i = c := by unfold riseA; rw [qj_wj, if_neg (by omega), qj_wj, if_pos ⟨rfl, rfl⟩]
  have e26 : qj (riseA a i b c) 26 i = qj a 8 16 := by unfold riseA; rw [qj_wj, if_pos ⟨rfl, rfl⟩]
  refine CR.lot h (SB.j (SB.j (SB.i (SB.r SB.rf)))) (SA.j (SA.j (SA.i (SA.i SA.rf (by omega)) (by omega)) (by omega)) (by omega)) ?_ ?_ ?_
  · show _ ∧ _ ∧ _ ∧ _ ∧ gr (sj (sj (si (sr S 5 i 4 (some 2)) 5 i 5 (nI b)) 5 i 6 c) 5 i 7 (qj a 8 16)) 5 i 4 = some (sT (riseA a i b c) i) ∧ _
    rw [e20]
    refine ⟨?_, ?_, ?_, ?_, ?_, ?_, ?_, ?_, ?_⟩
    · rw [gi_sj, gi_sj, gi_si, if_neg (by omega), gi_sr]; exact row.2.1
    · rw [gi_sj, gi_sj, gi_si, if_neg (by omega), gi_sr]; exact row.2.2.1
    · rw [gj_sj, if_neg (by omega), gj_sj, if_neg (by omega)]; exact row.2.2.2.1
    · rw [gj_sj, if_neg (by omega), gj_sj, if_neg (by omega)]; exact row.2.2.2.2.1
    · rw [gr_sj, gr_sj, gr_si, gr_sr]; exact if_pos ⟨rfl, rfl, rfl⟩
    · rw [gi_sj, gi_sj, gi_si, if_neg (by omega), gi_sr]; exact row.2.2.2.2.2.2.1
    · rw [gi_sj, gi_sj, gi_si, if_neg (by omega), gi_sr]; exact row.2.2.2.2.2.2.2.1
    · rw [gi_sj, gi_sj, gi_si, if_neg (by omega), gi_sr]; exact row.2.2.2.2.2.2.2.2.1
    · rw [gi_sj, gi_sj, gi_si, if_neg (by omega), gi_sr]; exact row.2.2.2.2.2.2.2.2.2
  · intro _
    show _ = qi (riseA a i b c) 21 i ∧ _ = qj (riseA a i b c) 22 i
    rw [e21, e22]
    refine ⟨?_, ?_⟩
    · rw [gi_sj, gi_sj, gi_si]; exact if_pos ⟨rfl, rfl, rfl⟩
    · rw [gj_sj, if_neg (by omega), gj_sj]; exact if_pos ⟨rfl, rfl, rfl⟩
  · intro _
    show _ = qj (riseA a i b c) 26 i
    rw [e26, gj_sj]; exact if_pos ⟨rfl, rfl, rfl⟩
theorem s_rise (p q : Int32) (c : Int64) {a : RS} (hk : Ok a) : Sim (wp_X8_rise p q c) (wp_X9_rise p q c) a := by
  have hL := hk.1.2.1
  have hB := hk.1.2.2.2.1
  rcases ix_or p (aL a) (by omega) with ⟨i, hi, rfl⟩ | hn
  · have ini : vp_in (nI i) 60 := vp_in_nI (by omega) (by omega)
    have e0 := st_eq (k := 0) hk.2.1 hi (by omega)
    have e2 := st_eq (k := 2) hk.2.1 hi (by omega)
    rcases ix_or q (aB a) (by omega) with ⟨b, hb, rfl⟩ | hm
    · by_cases hs : sT a i = 0 ∨ sT a i = 2
      · have walk8 : ∀ S ob, CR S a ob → ∀ post : Int32 → St → Prop, (leastV a i ≤ c → c ≤ (qj a 28 b - heldF a b (aL a)) + ownV a i b → post 0 (sj (sj (si (sr S 5 i 4 (some 2)) 5 i 5 (nI b)) 5 i 6 c) 5 i 7 (qj a 8 16))) → (leastV a i ≤ c → ¬ c ≤ (qj a 28 b - heldF a b (aL a)) + ownV a i b → post 4 S) → (¬ leastV a i ≤ c → post 3 S) → wp_X8_rise (nI i) (nI b) c S post := by
          intro S ob h post f0 f4 f3
          obtain ⟨-, -, -, -, er, est, -⟩ := h.2.1 i hi
          have k7 := h.2.2.2.2.2.2.1.2.2.2.2.2.2
          have tail : wp_X5_leastOffer i S (fun r12 S11 =>
  (r12 ≤ c →
  wp_X8_freeOf b S11 (fun r14 S13 =>
  wp_X5_offerOf i (nI b) S13 (fun r16 S15 =>
  (c ≤ (r14 + r16) →
  ∀ S17 : St, S17 = sr S15 5 i 4 (some 2) →
  ∀ S18 : St, S18 = si S17 5 i 5 (nI b) →
  ∀ S19 : St, S19 = sj S18 5 i 6 c →
  ∀ S20 : St, S20 = sj S19 5 i 7 (gj S19 7 0 9) →
  post (0 : Int32) S20) ∧
  (¬ c ≤ (r14 + r16) →
  post (4 : Int32) S15)))) ∧
  (¬ r12 ≤ c →
  post (3 : Int32) S11)) := by
            have t3 : ∀ r12, r12 = leastV a i → (r12 ≤ c →
  wp_X8_freeOf b S (fun r14 S13 =>
  wp_X5_offerOf i (nI b) S13 (fun r16 S15 =>
  (c ≤ (r14 + r16) →
  ∀ S17 : St, S17 = sr S15 5 i 4 (some 2) →
  ∀ S18 : St, S18 = si S17 5 i 5 (nI b) →
  ∀ S19 : St, S19 = sj S18 5 i 6 c →
  ∀ S20 : St, S20 = sj S19 5 i 7 (gj S19 7 0 9) →
  post (0 : Int32) S20) ∧
  (¬ c ≤ (r14 + r16) →
  post (4 : Int32) S15)))) ∧
  (¬ r12 ≤ c →
  post (3 : Int32) S) := by
              intro r12 e12
              subst e12
              refine ⟨fun hl => c_freeOf h hk.1 hb ?_, f3⟩
              have t5 : ∀ r16, r16 = ownV a i b → (c ≤ ((qj a 28 b - heldF a b (aL a)) + r16) →
  ∀ S17 : St, S17 = sr S 5 i 4 (some 2) →
  ∀ S18 : St, S18 = si S17 5 i 5 (nI b) →
  ∀ S19 : St, S19 = sj S18 5 i 6 c →
  ∀ S20 : St, S20 = sj S19 5 i 7 (gj S19 7 0 9) →
  post (0 : Int32) S20) ∧
  (¬ c ≤ ((qj a 28 b - heldF a b (aL a)) + r16) →
  post (4 : Int32) S) := by
                intro r16 e16
                subst e16
                refine ⟨fun hc S17 e17 S18 e18 S19 e19 S20 e20 => ?_, f4 hl⟩
                have f19 : gj S19 7 0 9 = qj a 8 16 := by rw [e19, e18, e17]; exact k7
                rw [f19] at e20
                rw [e20, e19, e18, e17]
                exact f0 hl hc
              unfold wp_X5_offerOf
              rw [est]
              refine ⟨fun c2 => t5 0 ?_, fun c2 => ?_⟩
              · unfold ownV; exact (if_neg (fun z => c2 (by rw [z.1]))).symm
              · have c2 := Option.some.inj c2
                obtain ⟨x5, x6⟩ := h.2.2.1 i hi (Or.inl c2)
                rw [x5, x6]
                exact ⟨fun c5 => t5 0 (by unfold ownV; exact (if_neg (fun z => c5 z.2)).symm), fun c5 => t5 _ (by unfold ownV; exact (if_pos ⟨c2, c5⟩).symm)⟩
            unfold wp_X5_leastOffer
            rw [est, er]
            refine ⟨fun c2 => t3 _ ?_, fun c2 => ?_⟩
            · unfold leastV; exact (if_neg (fun z => c2 (by rw [z]))).symm
            · have c2 := Option.some.inj c2
              rw [(h.2.2.1 i hi (Or.inl c2)).2]
              exact t3 _ (by unfold leastV; exact (if_pos c2).symm)
          refine c_lotAtI h hk.1 hi ⟨fun c => (by cases c), fun j e => ?_⟩
          cases e
          refine c_buyerAtI h hk.1 hb ⟨fun c => (by cases c), fun j e => ?_⟩
          cases e
          rw [est]
          exact ⟨fun _ => tail, fun c0 => ⟨fun _ => tail, fun c2 => absurd hs (fun z => z.elim (fun y => c0 (by rw [y])) (fun y => c2 (by rw [y])))⟩⟩
        have walk9 : ∀ S, pr S = a → ∀ post : Int32 → St → Prop, (leastV a i ≤ c → c ≤ (qj a 28 b - heldF a b (aL a)) + ownV a i b → post 0 (sj (sj (si (si S 20 0 i 2) 21 0 i (nI b)) 22 0 i c) 26 0 i (qj a 8 16))) → (leastV a i ≤ c → ¬ c ≤ (qj a 28 b - heldF a b (aL a)) + ownV a i b → post 4 S) → (¬ leastV a i ≤ c → post 3 S) → wp_X9_rise (nI i) (nI b) c S post := by
          intro S hS post f0 f4 f3
          subst hS
          have g20 : gi S 20 0 i = qi (pr S) 20 i := gi_pr rfl
          have g21 : gi S 21 0 i = qi (pr S) 21 i := gi_pr rfl
          have g22 : gj S 22 0 i = qj (pr S) 22 i := gj_pr rfl
          have g19 : gj S 19 0 i = qj (pr S) 19 i := gj_pr rfl
          have g16 : gj S 8 0 16 = qj (pr S) 8 16 := gj_pr rfl
          have tail : ∀ v own : Int64, v = leastV (pr S) i → own = ownV (pr S) i b → (v ≤ c →
  wp_X9_free (nI b) S (fun r10 S9 =>
  (c ≤ (r10 + own) →
  vp_in (nI i) 60 ∧
  ∀ S12 : St, S12 = si S9 20 0 i (2 : Int32) →
  vp_in (nI i) 60 ∧
  ∀ S14 : St, S14 = si S12 21 0 i (nI b) →
  vp_in (nI i) 60 ∧
  ∀ S16 : St, S16 = sj S14 22 0 i c →
  vp_in (nI i) 60 ∧
  ∀ S18 : St, S18 = sj S16 26 0 i (gj S16 8 0 16) →
  post (0 : Int32) S18) ∧
  (¬ c ≤ (r10 + own) →
  post (4 : Int32) S9))) ∧
  (¬ v ≤ c →
  post (3 : Int32) S) := by
            intro v own ev eo
            subst ev; subst eo
            refine ⟨fun hl => r_free hk.1 hk.2.1 hb ⟨fun hc => ⟨ini, fun S12 e12 => ⟨ini, fun S14 e14 => ⟨ini, fun S16 e16 => ⟨ini, fun S18 e18 => ?_⟩⟩⟩⟩, f4 hl⟩, f3⟩
            have f16 : gj S16 8 0 16 = qj (pr S) 8 16 := by rw [e16, e14, e12]; exact g16
            rw [f16] at e18
            rw [e18, e16, e14, e12]
            exact f0 hl hc
          refine r_isLotI hk.1 hi ⟨fun c => absurd c (by decide), fun _ => r_isBuyerI hk.1 hb ⟨fun _ => ⟨ini, ?_⟩, fun c => absurd c (by decide)⟩⟩
          rw [nI_clamp (by omega), g20, g21, g22, g19]
          refine ⟨fun c0 => ⟨ini, fun v7 e7 => ⟨ini, fun c2 => tail v7 0 ?_ ?_, fun c2 => ?_⟩⟩, fun c0 => ⟨ini, fun c2 => ⟨ini, fun v72 _ => ⟨ini, fun c => absurd c2 c, fun _ => ⟨ini, fun v85 e85 => ⟨ini, fun c1 v87 e87 => ⟨ini, fun cb => tail v87 0 ?_ ?_, fun cb => ⟨ini, fun v100 e100 => tail v87 v100 ?_ ?_⟩⟩, fun c1 v111 e111 => ⟨ini, fun cb => tail v111 0 ?_ ?_, fun cb => ⟨ini, fun v124 e124 => tail v111 v124 ?_ ?_⟩⟩⟩⟩⟩⟩, fun c2 => absurd hs (fun z => z.elim (fun y => c0 (e0.mpr y)) (fun y => c2 (e2.mpr y)))⟩⟩
          · rw [e7]; unfold leastV; exact (if_neg (by have := e0.mp c0; omega)).symm
          · unfold ownV; exact (if_neg (by have := e0.mp c0; omega)).symm
          · have := e0.mp c0; have := e2.mp c2; omega
          · have s2 := e2.mp c2
            rw [e87, e85]; unfold leastV
            rw [if_pos s2, if_neg (fun z => Int64.not_lt.mpr (e85 ▸ c1) z)]
          · unfold ownV; exact (if_neg (fun z => cb z.2)).symm
          · have s2 := e2.mp c2
            rw [e87, e85]; unfold leastV
            rw [if_pos s2, if_neg (fun z => Int64.not_lt.mpr (e85 ▸ c1) z)]
          · rw [e100]; unfold ownV; exact (if_pos ⟨e2.mp c2, cb⟩).symm
          · have s2 := e2.mp c2
            rw [e111]; unfold leastV
            rw [if_pos s2, if_pos (Int64.not_le.mp (e85 ▸ c1))]
          · unfold ownV; exact (if_neg (fun z => cb z.2)).symm
          · have s2 := e2.mp c2
            rw [e111]; unfold leastV
            rw [if_pos s2, if_pos (Int64.not_le.mp (e85 ▸ c1))]
          · rw [e124]; unfold ownV; exact (if_pos ⟨e2.mp c2, cb⟩).symm
        by_cases h1 : leastV a i ≤ c
        · by_cases h2 : c ≤ (qj a 28 b - heldF a b (aL a)) + ownV a i b
          · refine ⟨0, riseA a i b c, hk.rise hi hb hs h1 h2, fun S ob h => ⟨_, fun post hp => walk8 S ob h post (fun _ _ => hp) (fun _ c => absurd h2 c) (fun c => absurd h1 c), h.rise hi, ⟨by rw [pr_sjC rfl, pr_sjC rfl, pr_siC rfl, pr_sr], rfl⟩⟩, fun S hS => ⟨_, fun post hp => walk9 S hS post (fun _ _ => hp) (fun _ c => absurd h2 c) (fun c => absurd h1 c), ?_, CS.sj (CS.sj (CS.si (CS.si CS.rf rfl) rfl) rfl) rfl⟩⟩
            rw [pr_sj rfl, pr_sj rfl, pr_si rfl, pr_si rfl, hS]
            rfl
          · exact ⟨4, a, hk, ClR.ro (fun S ob h post hp => walk8 S ob h post (fun _ c => absurd c h2) (fun _ _ => hp) (fun c => absurd h1 c)), RfR.ro (fun S hS post hp => walk9 S hS post (fun _ c => absurd c h2) (fun _ _ => hp) (fun c => absurd h1 c))⟩
        · exact ⟨3, a, hk, ClR.ro (fun S ob h post hp => walk8 S ob h post (fun c _ => absurd c h1) (fun c _ => absurd c h1) (fun _ => hp)), RfR.ro (fun S hS post hp => walk9 S hS post (fun c _ => absurd c h1) (fun c _ => absurd c h1) (fun _ => hp))⟩
      · refine ⟨2, a, hk, ClR.ro (fun S ob h post hp => ?_), RfR.ro (fun S hS post hp => ?_)⟩
        · obtain ⟨-, -, -, -, er, est, -⟩ := h.2.1 i hi
          refine c_lotAtI h hk.1 hi ⟨fun c => (by cases c), fun j e => ?_⟩
          cases e
          refine c_buyerAtI h hk.1 hb ⟨fun c => (by cases c), fun j e => ?_⟩
          cases e
          rw [est]
          exact ⟨fun c0 => absurd (Or.inl (Option.some.inj c0)) hs, fun c0 => ⟨fun c2 => absurd (Or.inr (Option.some.inj c2)) hs, fun _ => hp⟩⟩
        · subst hS
          have g20 : gi S 20 0 i = qi (pr S) 20 i := gi_pr rfl
          refine r_isLotI hk.1 hi ⟨fun c => absurd c (by decide), fun _ => r_isBuyerI hk.1 hb ⟨fun _ => ⟨ini, ?_⟩, fun c => absurd c (by decide)⟩⟩
          rw [nI_clamp (by omega), g20]
          exact ⟨fun c0 => absurd (Or.inl (e0.mp c0)) hs, fun c0 => ⟨ini, fun c2 => absurd (Or.inr (e2.mp c2)) hs, fun _ => hp⟩⟩
    · refine ⟨1, a, hk, ClR.ro (fun S ob h post hp => ?_), RfR.ro (fun S hS post hp => ?_)⟩
      · refine c_lotAtI h hk.1 hi ⟨fun c => (by cases c), fun j e => ?_⟩
        cases e
        refine c_buyerAtN h hk.1 hm ?_
        exact ⟨fun _ => hp, fun j e => (by cases e)⟩
      · subst hS
        refine r_isLotI hk.1 hi ⟨fun c => absurd c (by decide), fun _ => r_isBuyerN hk.1 hm ?_⟩
        exact ⟨fun c => absurd rfl c, fun _ => hp⟩
  · refine ⟨1, a, hk, ClR.ro (fun S ob h post hp => ?_), RfR.ro (fun S hS post hp => ?_)⟩
    · refine c_lotAtN h hk.1 hn ⟨fun _ => ?_, fun j e => (by cases e)⟩
      rcases ix_or q (aB a) (by omega) with ⟨b, hb, rfl⟩ | hm
      · exact c_buyerAtI h hk.1 hb ⟨fun c => (by cases c), fun _ _ => hp⟩
      · exact c_buyerAtN h hk.1 hm ⟨fun _ => hp, fun j e => (by cases e)⟩
    · subst hS
      refine r_isLotN hk.1 hn ?_
      exact ⟨fun _ => hp, fun c => absurd rfl c⟩
