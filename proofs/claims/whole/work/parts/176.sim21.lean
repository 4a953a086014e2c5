/-! ===== sets ===== -/
theorem Ok.ovr {x : RS} {cc : Int32} {ss : Int64} {p : Int32} (hp : p = 0 ∨ p = 1) (h : Ok x) : Ok (ov x cc ss p) := by
  obtain ⟨hOkC, hOkL, hOkT, hOkN, hOkB, hOkP, hOkD, hOkZ, hOkR⟩ := h
  suffices hh : Ok (wi (wj (wi x 8 27 cc) 8 28 ss) 8 29 p) from hh
  refine ⟨?_, ?_, ?_, ?_, ?_, ?_, ?_, ?_, ?_⟩
  · (simp (disch := simp [nf, nk]) only [OkC_wi, OkC_wj]; exact hOkC)
  · (simp (disch := simp [nf, nk]) only [OkL_wi, OkL_wj]; exact hOkL)
  · (simp (disch := simp [nf, nk]) only [OkT_wi, OkT_wj]; exact hOkT)
  · exact ⟨hOkN.1, hp, hOkN.2.2⟩
  · (simp (disch := simp [nf, nk]) only [OkB_wi, OkB_wj]; exact hOkB)
  · (simp (disch := simp [nf, nk]) only [OkP_wi, OkP_wj]; exact hOkP)
  · (simp (disch := simp [nf, nk]) only [OkD_wi, OkD_wj]; exact hOkD)
  · (simp (disch := simp [nf, nk]) only [OkZ_wi, OkZ_wj]; exact hOkZ)
  · (simp (disch := simp [nf, nk]) only [OkR_wi, OkR_wj]; exact hOkR)
theorem Ok.pv {x : RS} {p : Int32} (hp : p = 0 ∨ p = 1) (h : Ok x) : Ok (wi x 8 29 p) := by
  have := h.ovr (cc := qi x 8 27) (ss := qj x 8 28) hp
  have e : ov x (qi x 8 27) (qj x 8 28) p = wi x 8 29 p := by
    unfold ov
    have e1 : wi x 8 27 (qi x 8 27) = x := by
      refine Prod.ext ?_ rfl
      funext k f
      show (if k = 8 ∧ f = 27 then x.1 8 27 else x.1 k f) = x.1 k f
      split
      · rename_i q; rw [q.1, q.2]
      · rfl
    rw [e1, wj_same]
  rw [e] at this
  exact this
theorem CR.pv {S : St} {a : RS} {ob : Nat} {p : Int32} (h : CR S a ob) : CR (si S 7 0 10 p) (wi a 8 29 p) ob := by
  obtain ⟨hCRc, hCRl, hCRt, hCRo, hCRb, hCRp, hCRk, hCRd, hCRs, hCRr⟩ := h
  refine ⟨?_, ?_, ?_, ?_, ?_, ?_, ?_, ?_, ?_, ?_⟩
  · exact hCRc
  · (simp (disch := simp [nf, nk]) only [CRl_wi, CRl_si]; exact hCRl)
  · (simp (disch := simp [nf, nk]) only [CRt_wi, CRt_si]; exact hCRt)
  · (simp (disch := simp [nf, nk]) only [CRo_wi, CRo_si]; exact hCRo)
  · (simp (disch := simp [nf, nk]) only [CRb_wi, CRb_si]; exact hCRb)
  · (simp (disch := simp [nf, nk]) only [CRp_wi, CRp_si]; exact hCRp)
  · (simp (disch := simp [nf, nk]) only [CRk_wi, CRk_si]; exact hCRk)
  · (simp (disch := simp [nf, nk]) only [CRd_wi, CRd_si]; exact hCRd)
  · exact ⟨hCRs.1, hCRs.2.1, rfl⟩
  · (simp (disch := simp [nf, nk]) only [CRr_wi, CRr_si]; exact hCRr)
theorem resF_29 {a : RS} {v : Int32} {k : Nat} : ∀ n, resF (wi a 8 29 v) k n = resF a k n := by
  intro n
  induction n with
  | zero => rfl
  | succ n ih =>
    by_cases q : bl (bidL a k) n = true
    · rw [resF_t q, resF_t (a := wi a 8 29 v) q, ih]; rfl
    · rw [resF_f q, resF_f (a := wi a 8 29 v) q, ih]
theorem goodK_29 {a : RS} {v : Int32} {k : Nat} : goodK (wi a 8 29 v) k ↔ goodK a k := by
  unfold goodK
  rw [resF_29]
  exact Iff.rfl
theorem freeV_29 {a : RS} {v : Int32} {b : Nat} : freeV (wi a 8 29 v) b = freeV a b := by
  unfold freeV
  rw [show aL (wi a 8 29 v) = aL a from rfl, heldF_c (a := a) (a2 := wi a 8 29 v) (fun x _ => ⟨rfl, rfl, rfl⟩)]; rfl
theorem Feas_29 {a : RS} {v X : Int32} : Feas (wi a 8 29 v) X ↔ Feas a X := by
  unfold Feas
  refine and_congr Iff.rfl ?_
  constructor
  · intro h b hb
    have := h b hb
    rw [freeV_29] at this
    exact this
  · intro h b hb
    rw [freeV_29]
    exact h b hb
theorem Win_29 {a : RS} {v X : Int32} (h : Win (wi a 8 29 v) X) : Win a X := by
  obtain ⟨h1, h2, h3⟩ := h
  exact ⟨fun k q => ⟨(h1 k q).1, goodK_29.mp (h1 k q).2⟩, Feas_29.mp h2, fun y hy hf => h3 y (fun k q => ⟨(hy k q).1, goodK_29.mpr (hy k q).2⟩) (Feas_29.mpr hf)⟩
/-- all winners' lots: both sides from bid k on -/
theorem s_sells {a : RS} {X : Int32} (ha : Ok a) (hX : ∀ k, bt X k = true → k < aD a) (hF : Feas a X) {ss : Int64} : ∀ d k, k + d = aD a → ∀ x : RS, SI a X x k → ∃ xF, SI a X xF (aD a) ∧
    (∀ S ob, CR S (ov x X ss 1) ob → ∃ S1, (∀ post : Int32 → St → Prop, post (nI (zS X)) (si S1 7 0 8 0) → lp_X8_sets_51 post (d + 1) (nI k) S) ∧ CR S1 (ov xF X ss 1) ob ∧ pr S1 = pr S) ∧
    (∀ S, pr S = x → ∃ S1, (∀ post : Int32 → St → Prop, post (nI (zS X)) (si (si (sj (si S1 8 0 27 X) 8 0 28 ss) 8 0 29 1) 8 0 23 0) → lp_X9_sets_180 ss X post (d + 1) (nI k) S) ∧ pr S1 = xF ∧ CS S S1) := by
  have hL := ha.1.2.1
  have hn := ha.1.2.2.2.2.2.1
  have hp : ∀ x, Ok x → Ok (ov x X ss 1) := fun x h => h.ovr (Or.inr rfl)
  have off : ∀ i, 18 ≤ i → i < 32 → bt X i = false := fun i h _ => by
    cases q : bt X i with
    | true => have := hX i q; omega
    | false => rfl
  intro d
  induction d with
  | zero =>
    intro k hkd x h
    have hkd : k = aD a := by omega
    subst hkd
    obtain ⟨h1, h2, -⟩ := id h
    refine ⟨x, h, fun S ob hc => ⟨S, fun post hq => ⟨fun _ S4 e4 => ?_, fun z => absurd ?_ z⟩, hc, rfl⟩, fun S hS => ⟨S, fun post hq => ⟨fun _ S5 e5 S6 e6 S7 e7 S8 e8 => ?_, fun z => absurd ?_ z⟩, hS, CS.rf⟩⟩
    · subst e4
      show wp_J6_bitCount_0f7a4 (gi S 6 0 4) (si S 7 0 8 0) _
      rw [show gi S 6 0 4 = X from hc.2.2.2.2.2.2.2.2.1.1]
      exact c_bitCount off hq
    · rw [show gi S 7 0 8 = nI (aD a) from (hc.1.2.2.1.trans (hp x h1).1.2.2.2.2.1).trans (by rw [show aD (ov x X ss 1) = aD x from rfl, h2.2.2.1])]
      exact Int32.le_refl _
    · rw [e8, e7, e6, e5]
      exact r_size hq
    · rw [show gi S 8 0 23 = nI (aD a) from (show gi S 8 0 23 = qi (pr S) 8 23 from gi_pr rfl).trans (by rw [hS, h1.1.2.2.2.2.1, h2.2.2.1])]
      exact Int32.le_refl _
  | succ d ih =>
    intro k hkd x h
    have hlt : k < aD a := by omega
    obtain ⟨h1, h2, h3, h4⟩ := id h
    have hov := hp x h1
    have ink : vp_in (nI k) 18 := vp_in_nI (by omega) (by omega)
    have hkx : k < aD x := by rw [h2.2.2.1]; exact hlt
    have c8 : ∀ S ob, CR S (ov x X ss 1) ob → gi S 7 0 8 = nI (aD a) := fun S ob hc => (hc.1.2.2.1.trans hov.1.2.2.2.2.1).trans (by rw [show aD (ov x X ss 1) = aD x from rfl, h2.2.2.1])
    have r23 : ∀ S, pr S = x → gi S 8 0 23 = nI (aD a) := fun S hS => (show gi S 8 0 23 = qi (pr S) 8 23 from gi_pr rfl).trans (by rw [hS, h1.1.2.2.2.2.1, h2.2.2.1])
    by_cases q : bt X k = true
    · obtain ⟨x2, i2, w8, w9⟩ := s_sellSet ha hF hp hlt q (aL a) 0 (by omega) x (qj a 32 k) (SL.of ha.2.2.2.2.2.2.1 h hlt q)
      obtain ⟨xF, iF, v8, v9⟩ := ih (k + 1) (by omega) x2 i2
      refine ⟨xF, iF, fun S ob hc => ?_, fun S hS => ?_⟩
      · obtain ⟨S1, u1, c1, p1⟩ := w8 S ob hc
        obtain ⟨S2, u2, c2, p2⟩ := v8 S1 ob c1
        refine ⟨S2, fun post hq => ⟨fun z => absurd (by rw [c8 S ob hc] at z; exact z) (nI_ge hlt (by omega)), fun _ => c_bidAtI hc hov.1 hkx ⟨fun z => (by cases z), fun j e => ?_⟩⟩, c2, p2.trans p1⟩
        cases e
        unfold wp_X6_hasChosen
        rw [show gi S 6 0 4 = X from hc.2.2.2.2.2.2.2.2.1.1, bit_u (by omega), if_pos q]
        refine ⟨fun z => absurd z (nI_pos (by omega)), fun _ => ⟨fun z => absurd z (nI_ge (b := 18) (by omega) (by omega)), fun _ => ⟨fun z => absurd z (by decide), fun _ => ⟨fun z => absurd z (by decide), fun _ v1 e1 => ?_⟩⟩⟩⟩
        obtain ⟨-, -, -, b2, -⟩ := hc.2.2.2.2.2.2.2.1 k hkx
        rw [b2, show qj (ov x X ss 1) 32 k = qj a 32 k from (h2.2.2.2 k).2.1] at e1
        rw [e1]
        refine ⟨aL a + 1, by omega, u1 _ (fun v ev => ?_)⟩
        rw [ev, nI_1]; exact u2 post hq
      · obtain ⟨S1, u1, c1, p1⟩ := w9 S hS
        obtain ⟨S2, u2, c2, p2⟩ := v9 S1 c1
        refine ⟨S2, fun post hq => ⟨fun z => absurd (by rw [r23 S hS] at z; exact z) (nI_ge hlt (by omega)), fun _ => ?_⟩, c2, p1.trans p2⟩
        rw [bit_s (by omega), if_pos q]
        refine ⟨fun z => absurd rfl z, fun _ => ⟨ink, ?_⟩⟩
        rw [nI_clamp (by omega), show gj S 32 0 k = qj a 32 k from (show gj S 32 0 k = qj (pr S) 32 k from gj_pr rfl).trans (by rw [hS]; exact (h2.2.2.2 k).2.1)]
        intro v13 e13
        rw [e13]
        exact ⟨aL a + 1, u1 _ (u2 post hq)⟩
    · obtain ⟨xF, iF, v8, v9⟩ := ih (k + 1) (by omega) x (h.skip hlt q)
      refine ⟨xF, iF, fun S ob hc => ?_, fun S hS => ?_⟩
      · obtain ⟨S2, u2, c2, p2⟩ := v8 S ob hc
        refine ⟨S2, fun post hq => ⟨fun z => absurd (by rw [c8 S ob hc] at z; exact z) (nI_ge hlt (by omega)), fun _ => c_bidAtI hc hov.1 hkx ⟨fun z => (by cases z), fun j e => ?_⟩⟩, c2, p2⟩
        cases e
        unfold wp_X6_hasChosen
        rw [show gi S 6 0 4 = X from hc.2.2.2.2.2.2.2.2.1.1, bit_u (by omega), if_neg q]
        refine ⟨fun z => absurd z (nI_pos (by omega)), fun _ => ⟨fun z => absurd z (nI_ge (b := 18) (by omega) (by omega)), fun _ => ⟨fun _ => ⟨fun _ v ev => ?_, fun z => absurd rfl z⟩, fun z => absurd rfl z⟩⟩⟩
        rw [ev, nI_1]; exact u2 post hq
      · obtain ⟨S2, u2, c2, p2⟩ := v9 S hS
        refine ⟨S2, fun post hq => ⟨fun z => absurd (by rw [r23 S hS] at z; exact z) (nI_ge hlt (by omega)), fun _ => ?_⟩, c2, p2⟩
        rw [bit_s (by omega), if_neg q]
        refine ⟨fun _ v ev => ?_, fun z => absurd z (by decide)⟩
        rw [ev, nI_1]; exact u2 post hq
theorem CR.end {S : St} {a : RS} {ob : Nat} (h : CR S a ob) : CR (si S 7 0 8 0) (wi a 8 23 0) (ob + aD a) := by
  obtain ⟨hCRc, hCRl, hCRt, hCRo, hCRb, hCRp, hCRk, hCRd, hCRs, hCRr⟩ := h
  refine ⟨?_, ?_, ?_, ?_, ?_, ?_, ?_, ?_, ?_, ?_⟩
  · obtain ⟨c1, c2, c3, c4, c5, c6, c7⟩ := hCRc
    exact ⟨c1, c2, rfl, c4, c5, c6, c7⟩
  · (simp (disch := simp [nf, nk]) only [CRl_wi, CRl_si]; exact hCRl)
  · (simp (disch := simp [nf, nk]) only [CRt_wi, CRt_si]; exact hCRt)
  · (simp (disch := simp [nf, nk]) only [CRo_wi, CRo_si]; exact hCRo)
  · (simp (disch := simp [nf, nk]) only [CRb_wi, CRb_si]; exact hCRb)
  · (simp (disch := simp [nf, nk]) only [CRp_wi, CRp_si]; exact hCRp)
  · (simp (disch := simp [nf, nk]) only [CRk_wi, CRk_si]; exact hCRk)
  · intro k hkn
    have hkn : k < 0 := hkn
    omega
  · exact ⟨hCRs.1, hCRs.2.1, hCRs.2.2⟩
  · (simp (disch := simp [nf, nk]) only [CRr_wi, CRr_si]; exact hCRr)
theorem Ok.end {x : RS} (h : Ok x) : Ok (wi x 8 23 0) := by
  obtain ⟨hOkC, hOkL, hOkT, hOkN, hOkB, hOkP, hOkD, hOkZ, hOkR⟩ := h
  refine ⟨?_, ?_, ?_, ?_, ?_, ?_, ?_, ?_, ?_⟩
  · obtain ⟨c1, c2, c3, c4, c5, c6, c7, c8⟩ := hOkC
    refine ⟨c1, c2, c3, c4, rfl, by show (0 : Nat) ≤ 18; omega, c7, ?_⟩
    show aR x ≤ capS (wi x 8 23 0) (aL x)
    rw [capS_wi (by decide) (by decide) (by decide)]
    exact c8
  · (simp (disch := simp [nf, nk]) only [OkL_wi]; exact hOkL)
  · (simp (disch := simp [nf, nk]) only [OkT_wi]; exact hOkT)
  · (simp (disch := simp [nf, nk]) only [OkN_wi]; exact hOkN)
  · (simp (disch := simp [nf, nk]) only [OkB_wi]; exact hOkB)
  · (simp (disch := simp [nf, nk]) only [OkP_wi]; exact hOkP)
  · intro k hkn
    have hkn : k < 0 := hkn
    omega
  · (simp (disch := simp [nf, nk]) only [OkZ_wi]; exact hOkZ)
  · (simp (disch := simp [nf, nk]) only [OkR_wi]; exact hOkR)
theorem ov_29 {a : RS} {cc : Int32} {ss : Int64} : ov (wi a 8 29 0) cc ss 1 = wj (wi (wi a 8 29 1) 8 27 cc) 8 28 ss := by
  refine Prod.ext ?_ rfl
  funext k f
  show (if k = 8 ∧ f = 29 then 1 else if k = 8 ∧ f = 27 then cc else if k = 8 ∧ f = 29 then 0 else a.1 k f) = if k = 8 ∧ f = 27 then cc else if k = 8 ∧ f = 29 then 1 else a.1 k f
  by_cases e : k = 8 ∧ f = 29
  · rw [if_pos e, if_neg (by omega), if_pos e]
  · rw [if_neg e, if_neg e, if_neg e]
theorem b_sets {S : St} (hI : Inv S) (w : Int64) : Both (wp_X8_sets w) (wp_X9_sets w) S := by
  obtain ⟨ob, h, hk⟩ := id hI
  have hn := hk.1.2.2.2.2.2.1
  have g8 : gi S 7 0 8 = nI (aD (pr S)) := h.1.2.2.1.trans hk.1.2.2.2.2.1
  have g23 : gi S 8 0 23 = nI (aD (pr S)) := (gi_pr rfl).trans hk.1.2.2.2.2.1
  have le0 : nI (aD (pr S)) ≤ 0 ↔ aD (pr S) = 0 := by
    rw [Int32.le_iff_toInt_le, nI_toInt (by omega)]
    show ((aD (pr S) : Int) ≤ 0) ↔ _
    omega
  have n18 : ¬ (18 : Int32) < nI (aD (pr S)) := by
    rw [Int32.lt_iff_toInt_lt, nI_toInt (by omega)]
    show ¬ ((18 : Int) < (aD (pr S) : Int))
    omega
  -- refused
  have ref : (∀ post : Int32 → St → Prop, post (-1) (si S 7 0 10 0) → wp_X8_sets w S post) → (∀ post : Int32 → St → Prop, post (-1) (si (si S 7 0 10 0) 8 0 29 0) → wp_X9_sets w (si S 7 0 10 0) post) → Both (wp_X8_sets w) (wp_X9_sets w) S := by
    intro f8 f9
    refine ⟨-1, si S 7 0 10 0, si (si S 7 0 10 0) 8 0 29 0, f8, f9, ob, ?_⟩
    rw [pr_si rfl, pr_siC rfl]
    exact ⟨h.pv.cs (CS.si CS.rf rfl), hk.pv (Or.inl rfl)⟩
  by_cases hz : aD (pr S) = 0
  · refine ref (fun post hp => ?_) (fun post hp => ?_)
    · unfold wp_X8_sets
      rw [g8]
      exact ⟨fun _ S1 e1 => ⟨fun c => absurd (by rw [e1]; rfl) c, fun _ => by rw [e1]; exact hp⟩, fun c => absurd (le0.mpr hz) c⟩
    · intro S1 e1
      have f1 : gi S1 8 0 23 = 0 := by rw [e1]; exact g23.trans (by rw [hz]; rfl)
      rw [f1]
      exact ⟨fun _ => by rw [e1]; exact hp, fun c => absurd rfl c⟩
  · have ne0 : ¬ nI (aD (pr S)) ≤ 0 := fun z => hz (le0.mp z)
    have ne0' : ¬ nI (aD (pr S)) = 0 := fun z => hz ((nI_eq (b := 0) (by omega) (by omega)).mp z)
    by_cases hw : w < ((1 : Int64) <<< ((nI (aD (pr S))).toInt64 &&& 63))
    · refine ref (fun post hp => ?_) (fun post hp => ?_)
      · unfold wp_X8_sets
        rw [g8]
        exact ⟨fun c => absurd c ne0, fun _ => ⟨fun c => absurd c n18, fun _ => ⟨fun _ S35 e35 => ⟨fun c => absurd (by rw [e35]; rfl) c, fun _ => by rw [e35]; exact hp⟩, fun c => absurd hw c⟩⟩⟩
      · intro S1 e1
        have f1 : gi S1 8 0 23 = nI (aD (pr S)) := by rw [e1]; exact g23
        rw [f1]
        exact ⟨fun c => absurd c ne0', fun _ => ⟨fun c => absurd c (Int64.not_le.mpr hw), fun _ => by rw [e1]; exact hp⟩⟩
    · have ok0 : Ok (wi (pr S) 8 29 0) := hk.pv (Or.inl rfl)
      have ok1 : Ok (wi (pr S) 8 29 1) := hk.pv (Or.inr rfl)
      obtain ⟨ss, cc, T, t1, t2, t3, t4, t5, t6⟩ := c_findWinners (h.pv (p := 1)) ok1
      have hwin := Win_29 t5
      have hX : ∀ k, bt cc k = true → k < aD (pr S) := fun k q => (hwin.1 k q).1
      have hF0 : Feas (wi (pr S) 8 29 0) cc := Feas_29.mpr hwin.2.1
      have si0 : SI (wi (pr S) 8 29 0) cc (wi (pr S) 8 29 0) 0 := by
        refine ⟨ok0, ⟨rfl, rfl, rfl, fun j => ⟨rfl, rfl, rfl, rfl⟩⟩, fun j hj _ q l hl hb => (hwin.1 j q).2.2.1 l hl hb, fun b hb => ?_⟩
        rw [remB_0]
        have f := hF0.2 b hb
        have fz := free_Z ok0 hb
        unfold freeV at f
        rw [fz] at f
        omega
      obtain ⟨xF, iF, v8, v9⟩ := s_sells (ss := ss) ok0 hX hF0 (aD (pr S)) 0 (by show 0 + aD (pr S) = aD (pr S); omega) (wi (pr S) 8 29 0) si0
      have crT : CR T (ov (wi (pr S) 8 29 0) cc ss 1) ob := by
        have := (h.pv (p := 1)).x t1
        unfold aX at this
        rw [t2, t3, ← ov_29] at this
        exact this
      obtain ⟨S1, u8, c1, p1⟩ := v8 T ob crT
      have prT : pr T = pr S := by
        refine Prod.ext ?_ ?_
        · funext k f
          show (if isR k = true then gi T k 0 f else 0) = if isR k = true then gi S k 0 f else 0
          by_cases q : isR k = true
          · rw [if_pos q, if_pos q]
            have := (t1.1 k 0 f (fun e => by subst e; cases q) (fun e => by subst e; cases q) (fun e => by subst e; cases q) (fun e => by subst e; cases q)).1
            rw [this, gi_si, if_neg (fun z => by rw [z.1] at q; cases q)]
          · rw [if_neg q, if_neg q]
        · funext k f
          show (if isR k = true then gj T k 0 f else 0) = if isR k = true then gj S k 0 f else 0
          by_cases q : isR k = true
          · rw [if_pos q, if_pos q]
            exact (t1.1 k 0 f (fun e => by subst e; cases q) (fun e => by subst e; cases q) (fun e => by subst e; cases q) (fun e => by subst e; cases q)).2.1
          · rw [if_neg q, if_neg q]
      -- the class's end
      have prZ : pr (si S1 7 0 8 0) = pr S := by rw [pr_siC rfl, p1, prT]
      have crZ : CR (si S1 7 0 8 0) (wi (ov xF cc ss 1) 8 23 0) (ob + aD (ov xF cc ss 1)) := c1.end
      -- the reference from there
      have prY : pr (si (si S1 7 0 8 0) 8 0 29 0) = wi (pr S) 8 29 0 := by rw [pr_si rfl, prZ]
      obtain ⟨most, best, m1, m2, m3⟩ := r_setsLoop (S := si (si S1 7 0 8 0) 8 0 29 0) (by rw [prY]; exact ok0)
      rw [prY] at m1 m2
      have e1 : best = cc := Win.u (a := pr S) hn (Win_29 m2) hwin
      subst e1
      have e2 : most = ss := j_inj.mp (m1.trans t4.symm)
      subst e2
      obtain ⟨S2, u9, c2, p2⟩ := v9 _ prY
      refine ⟨nI (zS best), si S1 7 0 8 0, si (si (sj (si S2 8 0 27 best) 8 0 28 most) 8 0 29 1) 8 0 23 0, fun post hp => ?_, fun post hp => ?_, ob + aD (ov xF best most 1), ?_⟩
      · unfold wp_X8_sets
        rw [g8]
        refine ⟨fun c => absurd c ne0, fun _ => ⟨fun c => absurd c n18, fun _ => ⟨fun c => absurd c hw, fun _ S52 e52 => ⟨fun _ => ?_, fun c => absurd (show gi S52 7 0 10 = 1 by rw [e52]; rfl) (by rw [c]; decide)⟩⟩⟩⟩
        rw [e52]
        exact t6 _ ⟨aD (pr S) + 1, by omega, u8 post hp⟩
      · intro S3 e3
        have f1 : gi S3 8 0 23 = nI (aD (pr S)) := by rw [e3, show gi (si (si S1 7 0 8 0) 8 0 29 0) 8 0 23 = gi (si S1 7 0 8 0) 8 0 23 from rfl, show gi (si S1 7 0 8 0) 8 0 23 = qi (pr (si S1 7 0 8 0)) 8 23 from gi_pr rfl, prZ]; exact hk.1.2.2.2.2.1
        rw [f1, e3]
        exact ⟨fun c => absurd c ne0', fun _ => ⟨fun _ => m3 post ⟨aD (pr S) + 1, u9 post hp⟩, fun c => absurd (Int64.not_lt.mp hw) c⟩⟩
      · rw [pr_si rfl, pr_si rfl, pr_sj rfl, pr_si rfl, c2]
        exact ⟨crZ.cs (CS.si (CS.si (CS.sj (CS.si ((CS.si CS.rf rfl).trans p2) rfl) rfl) rfl) rfl), (iF.1.ovr (Or.inr rfl)).end⟩
