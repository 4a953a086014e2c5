/-! ===== offers that have stood ===== -/
def ripeC (a : RS) (n : Nat) : Prop := sT a n = 2 ∧ ¬ (qj a 8 16 - qj a 26 n) < (10000 : Int64)
noncomputable def ripeS (a : RS) (n : Nat) : RS := @ite _ (ripeC a n) (Classical.propDecidable _) (aNote (wi a 20 n 3) 3 (nI n) (qi a 21 n) (qj a 22 n)) a
noncomputable def ripeA (a : RS) : Nat → RS
  | 0 => a
  | n + 1 => ripeS (ripeA a n) n
theorem ripe_q {a : RS} {i : Nat} : sT (wi a 20 i 3) i = 3 ∧ qi (wi a 20 i 3) 20 i = 3 := by
  have e : qi (wi a 20 i 3) 20 i = 3 := by rw [qi_wi, if_pos ⟨rfl, rfl⟩]
  exact ⟨by unfold sT; rw [e]; rfl, e⟩
theorem ripe_sa {a : RS} {i : Nat} : SA a (wi a 20 i 3) i := SA.i SA.rf (by omega)
theorem note_n {a : RS} {so lo bu : Int32} {ce : Int64} : aL (aNote a so lo bu ce) = aL a ∧ aB (aNote a so lo bu ce) = aB a ∧ aD (aNote a so lo bu ce) = aD a := ⟨rfl, rfl, rfl⟩
theorem note_q {a : RS} {so lo bu : Int32} {ce : Int64} {k f : Nat} (h : k < 34 ∧ (k ≠ 8 ∨ f ≠ 30)) : qi (aNote a so lo bu ce) k f = qi a k f ∧ qj (aNote a so lo bu ce) k f = qj a k f := by
  unfold aNote aNoteL
  refine ⟨?_, ?_⟩
  · rw [qi_wi, if_neg (by omega), qi_wi, if_neg (by omega), qi_wj, qi_wi, if_neg (by omega), qi_wi, if_neg (by omega), qi_wi, if_neg (by omega)]
  · rw [qj_wi, qj_wi, qj_wj, if_neg (by omega)]; rfl
theorem Ok.ripe {a : RS} (h : Ok a) {i : Nat} (hi : i < aL a) (hs : sT a i = 2) : Ok (wi a 20 i 3) := by
  have hL := h.1.2.1
  have okl := h.2.1 i hi
  obtain ⟨e1, e2⟩ := ripe_q (a := a) (i := i)
  refine Ok.lot h hi ripe_sa (h.on1 hi (by omega)) ?_ ?_ ?_ ?_ ?_
  · rw [e1, e2]; exact ⟨rfl, by omega, okl.2.2⟩
  · rw [e1]
    refine ⟨fun _ => (h.2.2.1 i hi).1 (Or.inl hs), fun c => ?_⟩
    have := ((h.2.2.1 i hi).2 c).1
    omega
  · intro _; exact h.2.2.2.2.2.2.2.1.2.2 i hi (Or.inl hs)
  · intro b hb
    rw [hvZ_on (a := a) (Or.inr hs), hvZ_on (a := wi a 20 i 3) (Or.inl e1)]
    have := (h.2.2.2.2.1 b hb).2.2.2.2
    have e21 : qi (wi a 20 i 3) 21 i = qi a 21 i := rfl
    rw [e21]
    show heldZ a b (aL a) - (if qi a 21 i = nI b then (qj a 22 i).toInt else 0) + (if qi a 21 i = nI b then (qj a 22 i).toInt else 0) ≤ (qj a 28 b).toInt
    omega
  · have e25 : qi (wi a 20 i 3) 25 i = qi a 25 i := rfl
    unfold capA
    rw [e1, e25, hs]
    simp
theorem cap_ripe {a : RS} (h : Ok a) {i : Nat} (hi : i < aL a) (hs : sT a i = 2) : aR a < capS (wi a 20 i 3) (aL a) := by
  obtain ⟨e1, e2⟩ := ripe_q (a := a) (i := i)
  have e := capS_sa (ripe_sa (a := a) (i := i)) hi
  have e25 : qi (wi a 20 i 3) 25 i = qi a 25 i := rfl
  have c1 : capA a i + 1 ≤ capA (wi a 20 i 3) i := by
    unfold capA
    rw [e1, e25, hs]
    simp
  have := h.1.2.2.2.2.2.2.2
  omega
theorem Ok.r239 {a a2 : RS} (h : Ok a) (hc : aR a < capS a2 (aL a)) : aR a < 240 := by
  have := capS_le a2 (aL a)
  have := h.1.2.1
  omega
theorem Ok.ripeT {a : RS} (h : Ok a) {n : Nat} (hn : n < aL a) : Ok (ripeS a n) := by
  by_cases q : ripeC a n
  · unfold ripeS; rw [if_pos q]
    exact (h.ripe hn q.1).note (cap_ripe h hn q.1)
  · unfold ripeS; rw [if_neg q]; exact h
theorem ripeS_n {a : RS} {n : Nat} : aL (ripeS a n) = aL a ∧ aB (ripeS a n) = aB a ∧ aD (ripeS a n) = aD a := by
  by_cases q : ripeC a n
  · unfold ripeS; rw [if_pos q]; exact ⟨rfl, rfl, rfl⟩
  · unfold ripeS; rw [if_neg q]; exact ⟨rfl, rfl, rfl⟩
theorem ripeA_ok {a : RS} (h : Ok a) : ∀ n, n ≤ aL a → Ok (ripeA a n) ∧ aL (ripeA a n) = aL a := by
  intro n
  induction n with
  | zero => intro _; exact ⟨h, rfl⟩
  | succ n ih =>
    intro hn
    obtain ⟨o, e⟩ := ih (by omega)
    exact ⟨o.ripeT (by omega), ripeS_n.1.trans e⟩
theorem c_ripeStep {S : St} {a : RS} {ob n : Nat} (h : CR S a ob) (hk : Ok a) (hn : n < aL a) : ∃ S1, (∀ (post : St → Prop) (K : Int32 → St → Prop), K (nI (n + 1)) S1 → bd_X8_sellRipeOffers_2 post K (nI n) S) ∧ CR S1 (ripeS a n) ob ∧ PR S S1 := by
  have hL := hk.1.2.1
  have g6 : gi S 7 0 6 = nI (aL a) := h.1.1.trans hk.1.1
  have row := h.2.1 n hn
  obtain ⟨k1, k2, k3, k4, k5, k6, k7⟩ := h.2.2.2.2.2.2.1
  have est := row.2.2.2.2.2.1
  by_cases q : ripeC a n
  · obtain ⟨x5, x6⟩ := h.2.2.1 n hn (Or.inl q.1)
    have hR := hk.r239 (cap_ripe hk hn q.1)
    have r1 : gi S 2 0 1 = nI (aR a) := h.2.2.2.2.2.2.2.2.2.1.trans hk.1.2.2.2.2.2.2.1
    have r3 : gn S 3 = aR a := h.1.2.2.2.2.2.1
    have cr : CR (sj (si (sr S 5 n 4 (some 3)) 5 n 5 (qi a 21 n)) 5 n 6 (qj a 22 n)) (wi a 20 n 3) ob := by
      obtain ⟨e1, e2⟩ := ripe_q (a := a) (i := n)
      refine CR.lot h (SB.j (SB.i (SB.r SB.rf))) ripe_sa ?_ ?_ ?_
      · rw [e1]
        refine ⟨?_, ?_, ?_, ?_, ?_, ?_, ?_, ?_, ?_⟩
        · rw [gi_sj, gi_si, if_neg (by omega)]; exact row.2.1
        · rw [gi_sj, gi_si, if_neg (by omega)]; exact row.2.2.1
        · rw [gj_sj, if_neg (by omega)]; exact row.2.2.2.1
        · rw [gj_sj, if_neg (by omega)]; exact row.2.2.2.2.1
        · rw [gr_sj, gr_si, gr_sr]; exact if_pos ⟨rfl, rfl, rfl⟩
        · rw [gi_sj, gi_si, if_neg (by omega)]; exact row.2.2.2.2.2.2.1
        · rw [gi_sj, gi_si, if_neg (by omega)]; exact row.2.2.2.2.2.2.2.1
        · rw [gi_sj, gi_si, if_neg (by omega)]; exact row.2.2.2.2.2.2.2.2.1
        · rw [gi_sj, gi_si, if_neg (by omega)]; exact row.2.2.2.2.2.2.2.2.2
      · intro _
        refine ⟨?_, ?_⟩
        · rw [gi_sj, gi_si]; exact if_pos ⟨rfl, rfl, rfl⟩
        · rw [gj_sj]; exact if_pos ⟨rfl, rfl, rfl⟩
      · rw [e1]; exact fun c => absurd c (by omega)
    refine ⟨cAdd (sj (si (sr S 5 n 4 (some 3)) 5 n 5 (qi a 21 n)) 5 n 6 (qj a 22 n)) (aR a) 3 (nI n) (qi a 21 n) (qj a 22 n), fun post K hK => ?_, ?_, PR.add (PR.sj (PR.si (PR.sr PR.rf) rfl) rfl)⟩
    · refine ⟨fun c => absurd (g6 ▸ c) (nI_ge hn (by omega)), fun _ => c_lotAtI h hk.1 hn ⟨fun c => (by cases c), fun j e => ?_⟩⟩
      cases e
      rw [est, q.1, k7, h.2.2.2.1 n hn q.1, x5, x6]
      refine ⟨fun c => absurd rfl c, fun _ => ⟨fun c => absurd c q.2, fun _ S1 e1 S2 e2 S3 e3 => ?_⟩⟩
      subst e1; subst e2; subst e3
      have f5 : gi (sj (si (sr S 5 n 4 (some 3)) 5 n 5 (qi a 21 n)) 5 n 6 (qj a 22 n)) 5 n 5 = qi a 21 n := by rw [gi_sj, gi_si]; exact if_pos ⟨rfl, rfl, rfl⟩
      have f6 : gj (sj (si (sr S 5 n 4 (some 3)) 5 n 5 (qi a 21 n)) 5 n 6 (qj a 22 n)) 5 n 6 = qj a 22 n := by rw [gj_sj]; exact if_pos ⟨rfl, rfl, rfl⟩
      rw [f5, f6]
      exact c_add (S := sj (si (sr S 5 n 4 (some 3)) 5 n 5 (qi a 21 n)) 5 n 6 (qj a 22 n)) r1 hR r3 (fun v ev => by rw [ev, nI_1]; exact hK)
    · unfold ripeS
      rw [if_pos q]
      exact CR.add cr hk.1.2.2.2.2.2.2.1 hR
  · refine ⟨S, fun post K hK => ?_, by unfold ripeS; rw [if_neg q]; exact h, PR.rf⟩
    refine ⟨fun c => absurd (g6 ▸ c) (nI_ge hn (by omega)), fun _ => c_lotAtI h hk.1 hn ⟨fun c => (by cases c), fun j e => ?_⟩⟩
    cases e
    rw [est, k7]
    have nx : ∀ v : Int32, v = nI n + 1 → K v S := fun v ev => by rw [ev, nI_1]; exact hK
    refine ⟨fun _ => nx, fun c => ?_⟩
    have c := Option.some.inj c
    rw [h.2.2.2.1 n hn c]
    exact ⟨fun _ => nx, fun c2 => absurd ⟨c, c2⟩ q⟩
theorem c_ripe {S : St} {a : RS} {ob : Nat} (h : CR S a ob) (hk : Ok a) : ∃ S1, (∀ post : St → Prop, post S1 → wp_X8_sellRipeOffers S post) ∧ CR S1 (ripeA a (aL a)) ob ∧ PR S S1 := by
  have hL := hk.1.2.1
  have key : ∀ d n, n + d = aL a → ∀ T, CR T (ripeA a n) ob → ∃ S1, (∀ post : St → Prop, post S1 → lp_X8_sellRipeOffers_2 post (d + 1) (nI n) T) ∧ CR S1 (ripeA a (aL a)) ob ∧ PR T S1 := by
    intro d
    induction d with
    | zero =>
      intro n hn T hT
      have hn : n = aL a := by omega
      subst hn
      obtain ⟨o, e⟩ := ripeA_ok hk (aL a) (Nat.le_refl _)
      have g6 : gi T 7 0 6 = nI (aL a) := (hT.1.1.trans o.1.1).trans (by rw [e])
      exact ⟨T, fun post hp => ⟨fun _ => hp, fun c => absurd (by rw [g6]; exact Int32.le_refl _) c⟩, hT, PR.rf⟩
    | succ d ih =>
      intro n hn T hT
      obtain ⟨o, e⟩ := ripeA_ok hk n (by omega)
      obtain ⟨T2, w2, c2, p2⟩ := c_ripeStep hT o (n := n) (by omega)
      obtain ⟨S1, w1, c1, p1⟩ := ih (n + 1) (by omega) T2 c2
      exact ⟨S1, fun post hp => w2 post _ (w1 post hp), c1, p2.trans p1⟩
  obtain ⟨S1, w1, c1, p1⟩ := key (aL a) 0 (by omega) S h
  exact ⟨S1, fun post hp => ⟨aL a + 1, by omega, w1 post hp⟩, c1, p1⟩
theorem r_ripeStep {S : St} {n : Nat} (hk : Ok (pr S)) (hn : n < aL (pr S)) : ∃ S1, (∀ (r : Int32) (post : Int32 → St → Prop) (K : Int32 → St → Prop), K (nI (n + 1)) S1 → bd_X9_tick_35 r post K (nI n) S) ∧ pr S1 = ripeS (pr S) n ∧ CS S S1 := by
  have hL := hk.1.2.1
  have ini : vp_in (nI n) 60 := vp_in_nI (by omega) (by omega)
  have g0 : gi S 8 0 0 = nI (aL (pr S)) := (gi_pr rfl).trans hk.1.1
  have g20 : gi S 20 0 n = qi (pr S) 20 n := gi_pr rfl
  have g21 : gi S 21 0 n = qi (pr S) 21 n := gi_pr rfl
  have g22 : gj S 22 0 n = qj (pr S) 22 n := gj_pr rfl
  have g16 : gj S 8 0 16 = qj (pr S) 8 16 := gj_pr rfl
  have g26 : gj S 26 0 n = qj (pr S) 26 n := gj_pr rfl
  have g30 : gi S 8 0 30 = nI (aR (pr S)) := (gi_pr rfl).trans hk.1.2.2.2.2.2.2.1
  have e2 := st_eq (k := 2) hk.2.1 hn (by omega)
  by_cases q : ripeC (pr S) n
  · have hR := hk.r239 (cap_ripe hk hn q.1)
    refine ⟨rNote (si S 20 0 n 3) (aR (pr S)) 3 (nI n) (qi (pr S) 21 n) (qj (pr S) 22 n), fun r post K hK => ?_, ?_, cs_note (CS.si CS.rf rfl)⟩
    · refine ⟨fun c => absurd (g0 ▸ c) (nI_ge hn (by omega)), fun _ => ⟨ini, ?_⟩⟩
      rw [nI_clamp (show n < 2 ^ 31 by omega), g20, g16, g26]
      refine ⟨fun c => absurd (e2.mpr q.1) c, fun _ => ⟨ini, fun c => absurd c q.2, fun _ => ⟨ini, fun S10 e10 => ⟨ini, ini, ?_⟩⟩⟩⟩
      have f21 : gi S10 21 0 n = qi (pr S) 21 n := by rw [e10]; exact g21
      have f22 : gj S10 22 0 n = qj (pr S) 22 n := by rw [e10]; exact g22
      have f30 : gi S10 8 0 30 = nI (aR (pr S)) := by rw [e10]; exact g30
      rw [f21, f22]
      refine r_note f30 (by omega) (fun v ev => ?_)
      rw [ev, nI_1, e10]; exact hK
    · rw [pr_note (by rw [pr_si rfl]; rfl), pr_si rfl]
      unfold ripeS
      rw [if_pos q]
  · refine ⟨S, fun r post K hK => ?_, by unfold ripeS; rw [if_neg q], CS.rf⟩
    have nx : ∀ v : Int32, v = nI n + 1 → K v S := fun v ev => by rw [ev, nI_1]; exact hK
    refine ⟨fun c => absurd (g0 ▸ c) (nI_ge hn (by omega)), fun _ => ⟨ini, ?_⟩⟩
    rw [nI_clamp (show n < 2 ^ 31 by omega), g20, g16, g26]
    exact ⟨fun _ => nx, fun c => ⟨ini, fun _ => nx, fun c2 => absurd ⟨e2.mp c, c2⟩ q⟩⟩
theorem r_ripe {a : RS} (hk : Ok a) {S : St} (hS : pr S = a) : ∃ S1, (∀ (r : Int32) (post : Int32 → St → Prop), post r S1 → ∃ n, lp_X9_tick_35 r post n 0 S) ∧ pr S1 = ripeA a (aL a) ∧ CS S S1 := by
  have key : ∀ d n, n + d = aL a → ∀ T, pr T = ripeA a n → ∃ S1, (∀ (r : Int32) (post : Int32 → St → Prop), post r S1 → lp_X9_tick_35 r post (d + 1) (nI n) T) ∧ pr S1 = ripeA a (aL a) ∧ CS T S1 := by
    intro d
    induction d with
    | zero =>
      intro n hn T hT
      have hn : n = aL a := by omega
      subst hn
      obtain ⟨o, e⟩ := ripeA_ok hk (aL a) (Nat.le_refl _)
      have g0 : gi T 8 0 0 = nI (aL a) := by rw [show gi T 8 0 0 = qi (pr T) 8 0 from gi_pr rfl, hT, o.1.1, e]
      exact ⟨T, fun r post hp => ⟨fun _ => hp, fun c => absurd (by rw [g0]; exact Int32.le_refl _) c⟩, hT, CS.rf⟩
    | succ d ih =>
      intro n hn T hT
      obtain ⟨o, e⟩ := ripeA_ok hk n (by omega)
      obtain ⟨T2, w2, c2, p2⟩ := r_ripeStep (S := T) (n := n) (by rw [hT]; exact o) (by rw [hT]; omega)
      rw [hT] at c2
      obtain ⟨S1, w1, c1, p1⟩ := ih (n + 1) (by omega) T2 c2
      exact ⟨S1, fun r post hp => w2 r post _ (w1 r post hp), c1, p2.trans p1⟩
  obtain ⟨S1, w1, c1, p1⟩ := key (aL a) 0 (by omega) S hS
  exact ⟨S1, fun r post hp => ⟨aL a + 1, w1 r post hp⟩, c1, p1⟩
theorem s_tick (w : Int64) {a : RS} (hk : Ok a) : Sim (wp_X8_tick w) (wp_X9_tick w) a := by
  by_cases hw : (1 : Int64) ≤ w ∧ w ≤ (1000000 : Int64)
  · have w0 : 1 ≤ w.toInt := j_le.mp hw.1
    have w1 : w.toInt ≤ 1000000 := j_le.mp hw.2
    obtain ⟨r, a2, k2, h8, h9⟩ := s_run w w0 w1 (hk.day (t := qj a 8 16 + w))
    refine ⟨r, ripeA a2 (aL a2), (ripeA_ok k2 _ (Nat.le_refl _)).1, fun S ob h => ?_, fun S hS => ?_⟩
    · have k7 := h.2.2.2.2.2.2.1.2.2.2.2.2.2
      obtain ⟨S1, p1, c1, q1⟩ := h8 (sj S 7 0 9 (qj a 8 16 + w)) ob h.day
      obtain ⟨S2, p2, c2, q2⟩ := c_ripe c1 k2
      refine ⟨S2, fun post hp => c_isWithin (fun _ _ => ⟨fun _ S3 e3 => ?_, fun c => absurd c (by decide)⟩) (fun c => absurd c (fun q => q.elim (Int64.not_lt.mpr hw.1) (Int64.not_lt.mpr hw.2))), c2, (PR.sj PR.rf rfl).trans (q1.trans q2)⟩
      rw [k7] at e3
      subst e3
      exact p1 _ (p2 _ hp)
    · subst hS
      have e16 : gj S 8 0 16 = qj (pr S) 8 16 := gj_pr rfl
      obtain ⟨S1, p1, c1, q1⟩ := h9 (sj S 8 0 16 (qj (pr S) 8 16 + w)) (pr_sj rfl)
      obtain ⟨S2, p2, c2, q2⟩ := r_ripe k2 c1
      refine ⟨S2, fun post hp => ⟨fun c => absurd c (Int64.not_lt.mpr hw.1), fun _ => ⟨fun _ S3 e3 => ?_, fun c => absurd hw.2 c⟩⟩, c2, (CS.sj CS.rf rfl).trans (q1.trans q2)⟩
      rw [e16] at e3
      subst e3
      exact p1 _ (p2 _ _ hp)
  · refine ⟨-1, a, hk, ClR.ro (fun S ob h post hp => ?_), RfR.ro (fun S hS post hp => ?_)⟩
    · exact c_isWithin (fun b1 b2 => absurd ⟨b1, b2⟩ hw) (fun _ => ⟨fun c => absurd rfl c, fun _ => hp⟩)
    · exact ⟨fun _ => hp, fun b1 => ⟨fun b2 => absurd ⟨Int64.not_lt.mp b1, b2⟩ hw, fun _ => hp⟩⟩
