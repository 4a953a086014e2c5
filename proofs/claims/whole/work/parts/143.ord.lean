/-! tie, chained, order -/
theorem c_tiedWith {S : St} {i b : Nat} (hb : b < 30) {post : Int32 → St → Prop} (h1 : bt (gi S 5 i 11) b = true → post 1 S) (h0 : ¬ bt (gi S 5 i 11) b = true → post 0 S) : wp_X5_isTiedWith i (nI b) S post := by
  unfold wp_X5_isTiedWith
  rw [bit_u (by omega)]
  refine ⟨fun c => absurd c (nI_pos (by omega)), fun _ => ⟨fun c => absurd c (nI_ge (a := b) (b := 30) hb (by omega)), fun _ => ⟨fun c => ?_, fun c => ?_⟩⟩⟩
  · by_cases q : bt (gi S 5 i 11) b = true
    · rw [if_pos q] at c; exact absurd c (by decide)
    · exact h0 q
  · by_cases q : bt (gi S 5 i 11) b = true
    · exact h1 q
    · rw [if_neg q] at c; exact absurd rfl c
def tieV (T : Nat → Bool) : Nat → Nat → Nat → Int32
  | 0, _, _ => -1
  | d + 1, i, k => if T i = true then (if k = 0 then nI i else tieV T d (i + 1) (k - 1)) else tieV T d (i + 1) k
theorem b_tie {S : St} (hI : Inv S) (p k : Int32) : Both (wp_X8_tie p k) (wp_X9_tie p k) S := by
  obtain ⟨ob, h, hk⟩ := id hI
  have hL := hk.1.2.1
  have hB := hk.1.2.2.2.1
  rcases ix_or p (aL (pr S)) (by omega) with ⟨i, hi, rfl⟩ | hn
  · by_cases hk0 : 0 ≤ k
    · obtain ⟨kn, hkn, rfl⟩ := nI_of (Int32.not_lt.mpr hk0)
      have e11 : gi S 5 i 11 = gi S 27 0 i := (h.2.1 i hi).2.2.2.2.2.2.2.2.2
      have hin : vp_in (nI i) 60 := vp_in_nI (by omega) (by omega)
      have g7 : gi S 7 0 7 = nI (aB (pr S)) := h.1.2.1.trans hk.1.2.2.1
      have g12 : gi S 8 0 12 = nI (aB (pr S)) := (gi_pr rfl).trans hk.1.2.2.1
      refine Both.ro hI (tieV (bt (gi S 27 0 i)) (aB (pr S)) 0 kn) (fun post hp => ?_) (fun post hp => ?_)
      · refine c_lotAtI h hk.1 hi ?_
        refine ⟨fun c => (by cases c), fun j e => ?_⟩
        cases e
        refine ⟨fun _ => ⟨aB (pr S) + 1, ?_⟩, fun c => absurd hk0 c⟩
        have key : ∀ d b, b + d = aB (pr S) → ∀ s q, s + q = kn → post (tieV (bt (gi S 27 0 i)) d b q) S → lp_X8_tie_22 (nI kn) i post (d + 1) (nI b) (nI s) S := by
          intro d
          induction d with
          | zero =>
            intro b hb s q hs hp
            have hb : b = aB (pr S) := by omega
            subst hb
            exact ⟨fun _ => hp, fun c => absurd (by rw [g7]; exact Int32.le_refl _) c⟩
          | succ d ih =>
            intro b hb s q hs hp
            have hlt : b < aB (pr S) := by omega
            refine ⟨fun c => absurd (g7 ▸ c) (nI_ge hlt (by omega)), fun _ => ?_⟩
            refine c_tiedWith (by omega) (fun ht => ?_) (fun ht => ?_)
            · rw [e11] at ht
              simp only [tieV, ht, if_true] at hp
              refine ⟨fun c => absurd c (by decide), fun _ => ⟨fun c v hv w hw => ?_, fun c => ?_⟩⟩
              · have hq : q ≠ 0 := fun z => c (by rw [show s = kn by omega])
                rw [if_neg hq] at hp
                subst hv; subst hw
                rw [nI_1, nI_1]
                exact ih (b + 1) (by omega) (s + 1) (q - 1) (by omega) hp
              · have hq : q = 0 := by have := (nI_eq (by omega) (by omega)).mp c; omega
                rw [if_pos hq] at hp
                exact hp
            · rw [e11] at ht
              simp only [tieV, if_neg ht] at hp
              refine ⟨fun _ v hv => ?_, fun c => absurd rfl c⟩
              subst hv
              rw [nI_1]
              exact ih (b + 1) (by omega) s q hs hp
        exact key (aB (pr S)) 0 (by omega) 0 kn (by omega) hp
      · refine r_isLotI hk.1 hi ?_
        refine ⟨fun c => absurd c (by decide), fun _ => ⟨fun _ => ⟨aB (pr S) + 1, ?_⟩, fun c => absurd hk0 c⟩⟩
        have key : ∀ d b, b + d = aB (pr S) → ∀ q, q ≤ kn → post (tieV (bt (gi S 27 0 i)) d b q) S → lp_X9_tie_19 (nI i) post (d + 1) (nI b) (nI q) S := by
          intro d
          induction d with
          | zero =>
            intro b hb q hq hp
            have hb : b = aB (pr S) := by omega
            subst hb
            exact ⟨fun _ => hp, fun c => absurd (by rw [g12]; exact Int32.le_refl _) c⟩
          | succ d ih =>
            intro b hb q hq hp
            have hlt : b < aB (pr S) := by omega
            refine ⟨fun c => absurd (g12 ▸ c) (nI_ge hlt (by omega)), fun _ => ⟨hin, ?_⟩⟩
            rw [nI_clamp (by omega), bit_s (by omega)]
            by_cases ht : bt (gi S 27 0 i) b = true
            · rw [if_pos ht]
              simp only [tieV, ht, if_true] at hp
              refine ⟨fun c => absurd rfl c, fun _ => ⟨fun c v hv w hw => ?_, fun c => ?_⟩⟩
              · have hq0 : q ≠ 0 := fun z => c (by rw [z]; rfl)
                rw [if_neg hq0] at hp
                subst hv; subst hw
                rw [nI_1, show nI q + (-1 : Int32) = nI (q - 1) by obtain ⟨z, rfl⟩ : ∃ z, q = z + 1 := ⟨q - 1, by omega⟩; exact pk_m1 z]
                exact ih (b + 1) (by omega) (q - 1) (by omega) hp
              · have hq0 : q = 0 := (nI_eq (b := 0) (by omega) (by omega)).mp c
                rw [if_pos hq0] at hp
                exact hp
            · rw [if_neg ht]
              simp only [tieV, if_neg ht] at hp
              refine ⟨fun _ v hv => ?_, fun c => absurd c (by decide)⟩
              subst hv
              rw [nI_1]
              exact ih (b + 1) (by omega) q hq hp
        exact key (aB (pr S)) 0 (by omega) kn (Nat.le_refl _) hp
    · refine Both.ro hI (-1) (fun post hp => ?_) (fun post hp => ?_)
      · refine c_lotAtI h hk.1 hi ?_
        exact ⟨fun c => (by cases c), fun j e => ⟨fun c => absurd c hk0, fun _ => hp⟩⟩
      · refine r_isLotI hk.1 hi ?_
        exact ⟨fun c => absurd c (by decide), fun _ => ⟨fun c => absurd c hk0, fun _ => hp⟩⟩
  · refine Both.ro hI (-1) (fun post hp => ?_) (fun post hp => ?_)
    · refine c_lotAtN h hk.1 hn ?_
      exact ⟨fun _ => hp, fun j e => (by cases e)⟩
    · refine r_isLotN hk.1 hn ?_
      exact ⟨fun _ => hp, fun c => absurd rfl c⟩
theorem b_chained {S : St} (hI : Inv S) : Both wp_X8_chained wp_X9_chained S := by
  obtain ⟨ob, h, hk⟩ := id hI
  have hR := hk.1.r240
  have hOR := hk.2.2.2.2.2.2.2.2
  have g30 : gi S 8 0 30 = nI (aR (pr S)) := (gi_pr rfl).trans hk.1.2.2.2.2.2.2.1
  have g2 : gi S 2 0 1 = nI (aR (pr S)) := h.2.2.2.2.2.2.2.2.2.1.trans hk.1.2.2.2.2.2.2.1
  refine Both.ro hI 1 (fun post hp => ?_) (fun post hp => ?_)
  · refine ⟨aR (pr S) + 1, ?_⟩
    have key : ∀ d r, r + d = aR (pr S) → lp_X2_isWhole_4 (fun r3 S2 => bz r3 ∧ post r3 S2) (d + 1) (nI r) (prevA (pr S) r) S := by
      intro d
      induction d with
      | zero =>
        intro r hr
        have hr : r = aR (pr S) := by omega
        subst hr
        exact ⟨fun _ => ⟨Or.inr rfl, hp⟩, fun c => absurd (by rw [g2]; exact Int32.le_refl _) c⟩
      | succ d ih =>
        intro r hr
        have hlt : r < aR (pr S) := by omega
        obtain ⟨-, e0, e1, e2, e3, e4⟩ := h.2.2.2.2.2.2.2.2.2.2.2 r hlt
        refine ⟨fun c => absurd (g2 ▸ c) (nI_ge hlt (by omega)), fun _ => ?_⟩
        refine c_atI h hk.1 hlt ?_
        refine ⟨fun c => (by cases c), fun j e => ?_⟩
        cases e
        have en : gi S 3 r 4 = nextF (prevA (pr S) r) (gi S 3 r 0) (gi S 3 r 1) (gi S 3 r 2) (gj S 3 r 3) := by rw [e0, e1, e2, e3, e4]; exact hOR r hlt
        refine ⟨fun _ v hv w hw => ?_, fun c => absurd en c⟩
        subst hv; subst hw
        rw [nI_1, show gi S 3 r 4 = prevA (pr S) (r + 1) by rw [e4]; rfl]
        exact ih (r + 1) (by omega)
    exact key (aR (pr S)) 0 (by omega)
  · refine ⟨aR (pr S) + 1, ?_⟩
    have key : ∀ d r, r + d = aR (pr S) → lp_X9_chained_6 post (d + 1) (nI r) (prevA (pr S) r) 1 S := by
      intro d
      induction d with
      | zero =>
        intro r hr
        have hr : r = aR (pr S) := by omega
        subst hr
        exact ⟨fun _ => ⟨Or.inr rfl, hp⟩, fun c => absurd (by rw [g30]; exact Int32.le_refl _) c⟩
      | succ d ih =>
        intro r hr
        have hlt : r < aR (pr S) := by omega
        have hin : vp_in (nI r) 1024 := vp_in_nI (by omega) (by omega)
        refine ⟨fun c => absurd (g30 ▸ c) (nI_ge hlt (by omega)), fun _ => ⟨hin, hin, hin, hin, ?_⟩⟩
        rw [nI_clamp (by omega)]
        refine ⟨fun c => absurd c (by decide), fun _ => ⟨hin, ?_⟩⟩
        have e34 : gi S 34 0 r = qi (pr S) 34 r := gi_pr rfl
        have e35 : gi S 35 0 r = qi (pr S) 35 r := gi_pr rfl
        have e36 : gi S 36 0 r = qi (pr S) 36 r := gi_pr rfl
        have e37 : gj S 37 0 r = qj (pr S) 37 r := gj_pr rfl
        have e38 : gi S 38 0 r = qi (pr S) 38 r := gi_pr rfl
        have en : gi S 38 0 r = nextF (prevA (pr S) r) (gi S 34 0 r) (gi S 35 0 r) (gi S 36 0 r) (gj S 37 0 r) := by rw [e34, e35, e36, e37, e38]; exact hOR r hlt
        refine ⟨fun c => absurd en c, fun _ v hv => ?_⟩
        subst hv
        rw [nI_1]
        have ep : prevA (pr S) (r + 1) = nextF (prevA (pr S) r) (gi S 34 0 r) (gi S 35 0 r) (gi S 36 0 r) (gj S 37 0 r) := by rw [← en, e38]; rfl
        have := ih (r + 1) (by omega)
        rw [ep] at this
        exact this
    exact key (aR (pr S)) 0 (by omega)
