/-! ===== good bids on both sides ===== -/
def resF (a : RS) (k : Nat) : Nat → Int64
  | 0 => 0
  | n + 1 => if bl (bidL a k) n = true then resF a k n + qj a 19 n else resF a k n
theorem resF_t {a : RS} {k n : Nat} (h : bl (bidL a k) n = true) : resF a k (n + 1) = resF a k n + qj a 19 n := by simp only [resF]; exact if_pos h
theorem resF_f {a : RS} {k n : Nat} (h : ¬ bl (bidL a k) n = true) : resF a k (n + 1) = resF a k n := by simp only [resF]; exact if_neg h
def goodK (a : RS) (k : Nat) : Prop := bidL a k ≠ 0 ∧ (∀ l, l < aL a → bl (bidL a k) l = true → sT a l = 0) ∧ ¬ qj a 32 k < resF a k (aL a)
theorem c_isFor2 {S : St} {j i : Nat} (hi : i < 60) {post : Int32 → St → Prop} (h1 : bl (gj S 0 j 3) i = true → post 1 S) (h0 : ¬ bl (gj S 0 j 3) i = true → post 0 S) : wp_X0_isFor j (nI i) S post := by
  refine ⟨fun c => absurd c (nI_pos (by omega)), fun _ => ⟨fun c => absurd c (nI_ge (b := 60) hi (by omega)), fun _ => ?_⟩⟩
  rw [lbit_u (by omega)]
  by_cases q : bl (gj S 0 j 3) i = true
  · rw [if_pos q]; exact ⟨fun c => absurd c (by decide), fun _ => h1 q⟩
  · rw [if_neg q]; exact ⟨fun _ => h0 q, fun c => absurd rfl c⟩
theorem c_isGood {S : St} {a : RS} {ob k : Nat} (h : CR S a ob) (hk : OkC a) (hkn : k < aD a) {post : Int32 → St → Prop} (h1 : goodK a k → post 1 S) (h0 : ¬ goodK a k → post 0 S) : wp_X8_isGood (ob + k) S post := by
  have hL := hk.2.1
  have g6 : gi S 7 0 6 = nI (aL a) := h.1.1.trans hk.1
  obtain ⟨-, -, -, b2, b3⟩ := h.2.2.2.2.2.2.2.1 k hkn
  refine ⟨aL a + 1, ?_⟩
  have key : ∀ d i, i + d = aL a → (∀ l, l < i → bl (bidL a k) l = true → sT a l = 0) → lp_X8_isGood_5 (ob + k) post (d + 1) (nI i) (resF a k i) S := by
    intro d
    induction d with
    | zero =>
      intro i hi ho
      have hi : i = aL a := by omega
      subst hi
      refine ⟨fun _ => ?_, fun c => absurd (by rw [g6]; exact Int32.le_refl _) c⟩
      rw [b2, b3]
      exact ⟨fun c => h0 (fun q => q.1 c), fun c => ⟨fun c2 => h0 (fun q => q.2.2 c2), fun c2 => h1 ⟨c, ho, c2⟩⟩⟩
    | succ d ih =>
      intro i hi ho
      have hlt : i < aL a := by omega
      refine ⟨fun c => absurd (g6 ▸ c) (nI_ge hlt (by omega)), fun _ => c_lotAtI h hk hlt ⟨fun c => (by cases c), fun j e => ?_⟩⟩
      cases e
      refine c_isFor2 (by omega) (fun q => ⟨fun c => absurd c (by decide), fun _ => ?_⟩) (fun q => ⟨fun _ v ev => ?_, fun c => absurd rfl c⟩)
      · rw [b3] at q
        rw [(h.2.1 i hlt).2.2.2.2.2.1, (h.2.1 i hlt).2.2.2.2.1]
        refine ⟨fun c v10 e10 v ev => ?_, fun c => h0 (fun z => c (by rw [z.2.1 i hlt q]))⟩
        have nx := ih (i + 1) (by omega) (fun l hl hb => by
          by_cases e : l = i
          · subst e; exact Option.some.inj c
          · exact ho l (by omega) hb)
        rw [resF_t q] at nx
        rw [ev, nI_1, e10]; exact nx
      · rw [b3] at q
        have nx := ih (i + 1) (by omega) (fun l hl hb => by
          by_cases e : l = i
          · subst e; exact absurd hb q
          · exact ho l (by omega) hb)
        rw [resF_f q] at nx
        rw [ev, nI_1]; exact nx
  exact key (aL a) 0 (by omega) (fun l hl => absurd hl (by omega))
theorem r_isGood {S : St} {k : Nat} (hk : OkC (pr S)) (hl : OkL (pr S)) (hkn : k < aD (pr S)) {post : Int32 → St → Prop} (h1 : goodK (pr S) k → post 1 S) (h0 : ¬ goodK (pr S) k → post 0 S) : wp_X9_isGood (nI k) S post := by
  have hL := hk.2.1
  have hn := hk.2.2.2.2.2.1
  have g0 : gi S 8 0 0 = nI (aL (pr S)) := (gi_pr rfl).trans hk.1
  have ink : vp_in (nI k) 18 := vp_in_nI (by omega) (by omega)
  have g33 : gj S 33 0 k = bidL (pr S) k := gj_pr rfl
  have g32 : gj S 32 0 k = qj (pr S) 32 k := gj_pr rfl
  have key : ∀ d i, i + d = aL (pr S) → ∀ fl : Int32, (fl = 0 ∨ fl = 1) → (fl = 1 ↔ (bidL (pr S) k ≠ 0 ∧ ∀ l, l < i → bl (bidL (pr S) k) l = true → sT (pr S) l = 0)) → lp_X9_isGood_22 (nI k) post (d + 1) (nI i) (resF (pr S) k i) fl S := by
    intro d
    induction d with
    | zero =>
      intro i hi fl hf hfl
      have hi : i = aL (pr S) := by omega
      subst hi
      refine ⟨fun _ => ⟨fun c => h0 (fun q => ?_), fun c => ⟨ink, ?_⟩⟩, fun c => absurd (by rw [g0]; exact Int32.le_refl _) c⟩
      · have := hfl.mpr ⟨q.1, q.2.1⟩
        rw [c] at this; exact absurd this (by decide)
      · rw [nI_clamp (by omega), g32]
        have z := hfl.mp (hf.resolve_left c)
        exact ⟨fun c2 => h0 (fun q => q.2.2 c2), fun c2 => h1 ⟨z.1, z.2, c2⟩⟩
    | succ d ih =>
      intro i hi fl hf hfl
      have hlt : i < aL (pr S) := by omega
      have ini : vp_in (nI i) 60 := vp_in_nI (by omega) (by omega)
      have e0 := st_eq (k := 0) hl hlt (by omega)
      refine ⟨fun c => absurd (g0 ▸ c) (nI_ge hlt (by omega)), fun _ => ⟨ink, ?_⟩⟩
      rw [nI_clamp (show k < 2 ^ 31 by omega), nI_clamp (show i < 2 ^ 31 by omega), g33, lbit_s (by omega), show gj S 19 0 i = qj (pr S) 19 i from gj_pr rfl, show gi S 20 0 i = qi (pr S) 20 i from gi_pr rfl]
      by_cases q : bl (bidL (pr S) k) i = true
      · rw [if_pos q]
        have nx : ∀ f2 : Int32, (f2 = 0 ∨ f2 = 1) → (f2 = 1 ↔ (fl = 1 ∧ sT (pr S) i = 0)) → ∀ v : Int64, v = resF (pr S) k i + qj (pr S) 19 i → ∀ w : Int32, w = nI i + 1 → lp_X9_isGood_22 (nI k) post (d + 1) w v f2 S := by
          intro f2 hf2 hi2 v ev w ew
          rw [ew, nI_1, ev, ← resF_t q]
          refine ih (i + 1) (by omega) f2 hf2 ?_
          rw [hi2, hfl]
          constructor
          · rintro ⟨⟨z1, z2⟩, z3⟩
            exact ⟨z1, fun l hl2 hb => by
              by_cases e : l = i
              · subst e; exact z3
              · exact z2 l (by omega) hb⟩
          · rintro ⟨z1, z2⟩
            exact ⟨⟨z1, fun l hl2 => z2 l (by omega)⟩, z2 i (by omega) q⟩
        refine ⟨fun c => absurd rfl c, fun _ => ⟨fun c => ⟨ini, nx 0 (Or.inl rfl) ?_⟩, fun c => ⟨ini, fun c2 => ⟨ini, nx 0 (Or.inl rfl) ?_⟩, fun c2 => ⟨ini, nx 1 (Or.inr rfl) ?_⟩⟩⟩⟩
        · rw [c]; exact ⟨fun z => absurd z (by decide), fun z => absurd z.1 (by decide)⟩
        · exact ⟨fun z => absurd z (by decide), fun z => absurd (e0.mpr z.2) c2⟩
        · exact ⟨fun _ => ⟨hf.resolve_left c, e0.mp c2⟩, fun _ => rfl⟩
      · rw [if_neg q]
        refine ⟨fun _ v ev => ?_, fun c => absurd c (by decide)⟩
        rw [ev, nI_1, ← resF_f q]
        refine ih (i + 1) (by omega) fl hf ?_
        rw [hfl]
        constructor
        · rintro ⟨z1, z2⟩
          exact ⟨z1, fun l hl2 hb => by
            by_cases e : l = i
            · subst e; exact absurd hb q
            · exact z2 l (by omega) hb⟩
        · rintro ⟨z1, z2⟩
          exact ⟨z1, fun l hl2 => z2 l (by omega)⟩
  refine ⟨ink, ?_⟩
  rw [nI_clamp (by omega), g33]
  refine ⟨fun c => ⟨aL (pr S) + 1, key (aL (pr S)) 0 (by omega) 0 (Or.inl rfl) ?_⟩, fun c => ⟨aL (pr S) + 1, key (aL (pr S)) 0 (by omega) 1 (Or.inr rfl) ?_⟩⟩
  · exact ⟨fun z => absurd z (by decide), fun z => absurd c z.1⟩
  · exact ⟨fun _ => ⟨c, fun l hl2 => absurd hl2 (by omega)⟩, fun _ => rfl⟩
/-! ===== the class's search, from its start ===== -/
def SX (S T : St) : Prop := (∀ k j f, k ≠ 6 → k ≠ 14 → k ≠ 15 → k ≠ 16 → gi T k j f = gi S k j f ∧ gj T k j f = gj S k j f ∧ gr T k j f = gr S k j f) ∧ (∀ k, gn T k = gn S k)
def aX (a : RS) (T : St) : RS := wj (wi a 8 27 (gi T 6 0 4)) 8 28 (gj T 6 0 5)
theorem SX.rf {S : St} : SX S S := ⟨fun _ _ _ _ _ _ _ => ⟨rfl, rfl, rfl⟩, fun _ => rfl⟩
theorem SX.trans {S T U : St} (h1 : SX S T) (h2 : SX T U) : SX S U := ⟨fun k j f c1 c2 c3 c4 => ⟨(h2.1 k j f c1 c2 c3 c4).1.trans (h1.1 k j f c1 c2 c3 c4).1, (h2.1 k j f c1 c2 c3 c4).2.1.trans (h1.1 k j f c1 c2 c3 c4).2.1, (h2.1 k j f c1 c2 c3 c4).2.2.trans (h1.1 k j f c1 c2 c3 c4).2.2⟩, fun k => (h2.2 k).trans (h1.2 k)⟩
theorem SX.b {S T : St} {ss : Int64} {cc : Int32} {pf : Nat → Int64} (h : SX S T) : SX S (sB T ss cc pf) := h.trans ⟨fun k j f c1 c2 c3 c4 => ⟨if_neg (fun q => c1 q.1), (if_neg (fun q => c1 q.1)).trans (if_neg (fun q => c4 q.1)), rfl⟩, fun _ => rfl⟩
theorem SX.i {S T : St} {j f : Nat} {v : Int32} (h : SX S T) : SX S (si T 6 j f v) := h.trans ⟨fun k j f c1 c2 c3 c4 => ⟨if_neg (fun q => c1 q.1), rfl, rfl⟩, fun _ => rfl⟩
theorem SX.r {S T : St} {j f : Nat} {v : Option Nat} (h : SX S T) : SX S (sr T 14 j f v) := h.trans ⟨fun k j f c1 c2 c3 c4 => ⟨rfl, rfl, if_neg (fun q => c2 q.1)⟩, fun _ => rfl⟩
theorem CR.x {S T : St} {a : RS} {ob : Nat} (h : CR S a ob) (hx : SX S T) : CR T (aX a T) ob := by
  obtain ⟨hCRc, hCRl, hCRt, hCRo, hCRb, hCRp, hCRk, hCRd, hCRs, hCRr⟩ := h
  obtain ⟨hx, hn⟩ := hx
  have i0 : ∀ j f, gi T 0 j f = gi S 0 j f := fun j f => (hx 0 j f (by decide) (by decide) (by decide) (by decide)).1
  have i1 : ∀ j f, gi T 1 j f = gi S 1 j f := fun j f => (hx 1 j f (by decide) (by decide) (by decide) (by decide)).1
  have i2 : ∀ j f, gi T 2 j f = gi S 2 j f := fun j f => (hx 2 j f (by decide) (by decide) (by decide) (by decide)).1
  have i3 : ∀ j f, gi T 3 j f = gi S 3 j f := fun j f => (hx 3 j f (by decide) (by decide) (by decide) (by decide)).1
  have i4 : ∀ j f, gi T 4 j f = gi S 4 j f := fun j f => (hx 4 j f (by decide) (by decide) (by decide) (by decide)).1
  have i5 : ∀ j f, gi T 5 j f = gi S 5 j f := fun j f => (hx 5 j f (by decide) (by decide) (by decide) (by decide)).1
  have i7 : ∀ j f, gi T 7 j f = gi S 7 j f := fun j f => (hx 7 j f (by decide) (by decide) (by decide) (by decide)).1
  have j0 : ∀ j f, gj T 0 j f = gj S 0 j f := fun j f => (hx 0 j f (by decide) (by decide) (by decide) (by decide)).2.1
  have j1 : ∀ j f, gj T 1 j f = gj S 1 j f := fun j f => (hx 1 j f (by decide) (by decide) (by decide) (by decide)).2.1
  have j3 : ∀ j f, gj T 3 j f = gj S 3 j f := fun j f => (hx 3 j f (by decide) (by decide) (by decide) (by decide)).2.1
  have j4 : ∀ j f, gj T 4 j f = gj S 4 j f := fun j f => (hx 4 j f (by decide) (by decide) (by decide) (by decide)).2.1
  have j5 : ∀ j f, gj T 5 j f = gj S 5 j f := fun j f => (hx 5 j f (by decide) (by decide) (by decide) (by decide)).2.1
  have j7 : ∀ j f, gj T 7 j f = gj S 7 j f := fun j f => (hx 7 j f (by decide) (by decide) (by decide) (by decide)).2.1
  have r4 : ∀ j f, gr T 4 j f = gr S 4 j f := fun j f => (hx 4 j f (by decide) (by decide) (by decide) (by decide)).2.2
  have r5 : ∀ j f, gr T 5 j f = gr S 5 j f := fun j f => (hx 5 j f (by decide) (by decide) (by decide) (by decide)).2.2
  have rA : ∀ j f, gr T 10 j f = gr S 10 j f := fun j f => (hx 10 j f (by decide) (by decide) (by decide) (by decide)).2.2
  have rB : ∀ j f, gr T 11 j f = gr S 11 j f := fun j f => (hx 11 j f (by decide) (by decide) (by decide) (by decide)).2.2
  have rC : ∀ j f, gr T 12 j f = gr S 12 j f := fun j f => (hx 12 j f (by decide) (by decide) (by decide) (by decide)).2.2
  have rD : ∀ j f, gr T 13 j f = gr S 13 j f := fun j f => (hx 13 j f (by decide) (by decide) (by decide) (by decide)).2.2
  unfold aX
  refine ⟨?_, ?_, ?_, ?_, ?_, ?_, ?_, ?_, ?_, ?_⟩
  · (simp (disch := simp [nf, nk]) only [CRc_wi, CRc_wj]; unfold CRc at *; simp only [i7, hn]; exact hCRc)
  · (simp (disch := simp [nf, nk]) only [CRl_wi, CRl_wj]; unfold CRl at *; simp only [i5, j5, r5, rA]; exact hCRl)
  · (simp (disch := simp [nf, nk]) only [CRt_wi, CRt_wj]; unfold CRt at *; simp only [i5, j5]; exact hCRt)
  · (simp (disch := simp [nf, nk]) only [CRo_wi, CRo_wj]; unfold CRo at *; simp only [j5]; exact hCRo)
  · (simp (disch := simp [nf, nk]) only [CRb_wi, CRb_wj]; unfold CRb at *; simp only [i1, j1, rB]; exact hCRb)
  · (simp (disch := simp [nf, nk]) only [CRp_wi, CRp_wj]; unfold CRp at *; simp only [j1]; exact hCRp)
  · (simp (disch := simp [nf, nk]) only [CRk_wi, CRk_wj]; unfold CRk at *; simp only [r4, j4, i4, j7]; exact hCRk)
  · (simp (disch := simp [nf, nk]) only [CRd_wi, CRd_wj]; unfold CRd at *; simp only [i0, j0, rC]; exact hCRd)
  · exact ⟨rfl, rfl, (i7 0 10).trans hCRs.2.2⟩
  · (simp (disch := simp [nf, nk]) only [CRr_wi, CRr_wj]; unfold CRr at *; simp only [i2, i3, j3, rD]; exact hCRr)
theorem Ok.x {a : RS} {T : St} (h : Ok a) : Ok (aX a T) := by
  obtain ⟨hOkC, hOkL, hOkT, hOkN, hOkB, hOkP, hOkD, hOkZ, hOkR⟩ := h
  unfold aX
  refine ⟨?_, ?_, ?_, ?_, ?_, ?_, ?_, ?_, ?_⟩
  · (simp (disch := simp [nf, nk]) only [OkC_wi, OkC_wj]; exact hOkC)
  · (simp (disch := simp [nf, nk]) only [OkL_wi, OkL_wj]; exact hOkL)
  · (simp (disch := simp [nf, nk]) only [OkT_wi, OkT_wj]; exact hOkT)
  · (simp (disch := simp [nf, nk]) only [OkN_wi, OkN_wj]; exact hOkN)
  · (simp (disch := simp [nf, nk]) only [OkB_wi, OkB_wj]; exact hOkB)
  · (simp (disch := simp [nf, nk]) only [OkP_wi, OkP_wj]; exact hOkP)
  · (simp (disch := simp [nf, nk]) only [OkD_wi, OkD_wj]; exact hOkD)
  · (simp (disch := simp [nf, nk]) only [OkZ_wi, OkZ_wj]; exact hOkZ)
  · (simp (disch := simp [nf, nk]) only [OkR_wi, OkR_wj]; exact hOkR)
theorem resF_x {a : RS} {T : St} {k : Nat} : ∀ n, resF (aX a T) k n = resF a k n := by
  intro n
  induction n with
  | zero => rfl
  | succ n ih =>
    by_cases q : bl (bidL a k) n = true
    · rw [resF_t q, resF_t (a := aX a T) q, ih]; rfl
    · rw [resF_f q, resF_f (a := aX a T) q, ih]
theorem goodK_x {a : RS} {T : St} {k : Nat} : goodK (aX a T) k ↔ goodK a k := by
  unfold goodK
  rw [resF_x]
  exact Iff.rfl
theorem freeV_x {a : RS} {T : St} {b : Nat} : freeV (aX a T) b = freeV a b := by
  unfold freeV
  rw [show aL (aX a T) = aL a from rfl, heldF_c (a := a) (a2 := aX a T) (fun x _ => ⟨rfl, rfl, rfl⟩)]; rfl
theorem c_purses {S : St} {a : RS} {ob : Nat} (h : CR S a ob) (hk : Ok a) {pf0 : Nat → Int64} : ∀ d i, i + d = aB a → ∀ pf : Nat → Int64, (∀ b, b < i → pf b = freeV a b) → ∃ pf2 : Nat → Int64, (∀ b, b < aB a → pf2 b = freeV a b) ∧ ∀ post : St → Prop, (∃ n, lp_X8_findWinners_48 post n 0 (sB (si S 6 0 3 0) 0 0 pf2)) → lp_X8_findWinners_9 post (d + 1) (nI i) (sB (si S 6 0 3 0) 0 0 pf) := by
  have hB := hk.1.2.2.2.1
  have g7 : ∀ pf, gi (sB (si S 6 0 3 0) 0 0 pf) 7 0 7 = nI (aB a) := fun pf => h.1.2.1.trans hk.1.2.2.1
  intro d
  induction d with
  | zero =>
    intro i hi pf hp
    have hi : i = aB a := by omega
    subst hi
    exact ⟨pf, hp, fun post hq => ⟨fun _ => hq, fun c => absurd (by rw [g7]; exact Int32.le_refl _) c⟩⟩
  | succ d ih =>
    intro i hi pf hp
    have hlt : i < aB a := by omega
    have hc : CR (sB (si S 6 0 3 0) 0 0 pf) (aX a (sB (si S 6 0 3 0) 0 0 pf)) ob := h.x (SX.b (SX.i SX.rf))
    obtain ⟨pf2, h2, w⟩ := ih (i + 1) (by omega) (fun y => if y = i then freeV a i else pf y) (fun b hb => by
      by_cases e : b = i
      · subst e; exact if_pos rfl
      · exact (if_neg e).trans (hp b (by omega)))
    refine ⟨pf2, h2, fun post hq => ⟨fun c => absurd (by rw [g7] at c; exact c) (nI_ge hlt (by omega)), fun _ => c_buyerAtI hc hk.x.1 hlt ⟨fun c => (by cases c), fun j e => ?_⟩⟩⟩
    cases e
    refine c_freeOf hc hk.x.1 hlt ?_
    show wp_X6_setPurse (nI i) (freeV (aX a (sB (si S 6 0 3 0) 0 0 pf)) i) (sB (si S 6 0 3 0) 0 0 pf) (fun S24 => ∀ v25 : Int32, v25 = nI i + 1 → lp_X8_findWinners_9 post (d + 1) v25 S24)
    rw [freeV_x]
    refine ⟨fun c => absurd c (nI_pos (by omega)), fun _ => ⟨fun c => absurd c (nI_ge (b := 30) (by omega) (by omega)), fun _ => ⟨vp_in_nI (by omega) (by omega), fun S3 e3 v ev => ?_⟩⟩⟩
    rw [nI_clamp (by omega), sB_pf] at e3
    rw [ev, nI_1, e3]
    exact w post hq
def gdI (a : RS) (ob : Nat) (S U : St) (k : Nat) : Prop := SX S U ∧ gi U 6 0 3 = nI (gl (goodK a) k).length ∧ (∀ i g, (gl (goodK a) k)[i]? = some g → gr U 14 0 i = some (ob + g)) ∧ gi U 6 0 4 = 0 ∧ gj U 6 0 5 = 0 ∧ (∀ b, b < aB a → gj U 16 0 b = freeV a b)
theorem c_goods {S : St} {a : RS} {ob : Nat} (h : CR S a ob) (hk : Ok a) : ∀ d k, k + d = aD a → ∀ U, gdI a ob S U k → ∃ V, gdI a ob S V (aD a) ∧ ∀ post : St → Prop, wp_X6_find V (fun S6 => post S6) → lp_X8_findWinners_48 post (d + 1) (nI k) U := by
  have hn := hk.1.2.2.2.2.2.1
  intro d
  induction d with
  | zero =>
    intro k hd U hU
    have hd : k = aD a := by omega
    subst hd
    have g8 : gi U 7 0 8 = nI (aD a) := (hU.1.1 7 0 8 (by decide) (by decide) (by decide) (by decide)).1.trans (h.1.2.2.1.trans hk.1.2.2.2.2.1)
    exact ⟨U, hU, fun post hp => ⟨fun _ => hp, fun c => absurd (by rw [g8]; exact Int32.le_refl _) c⟩⟩
  | succ d ih =>
    intro k hd U hU
    have hlt : k < aD a := by omega
    have g8 : gi U 7 0 8 = nI (aD a) := (hU.1.1 7 0 8 (by decide) (by decide) (by decide) (by decide)).1.trans (h.1.2.2.1.trans hk.1.2.2.2.2.1)
    have hc : CR U (aX a U) ob := h.x hU.1
    obtain ⟨u1, u2, u3, u4, u5, u6⟩ := hU
    have hlen := gl_len (G := goodK a) (n := k)
    by_cases q : goodK a k
    · have hV : gdI a ob S (si (sr U 14 0 (gl (goodK a) k).length (some (ob + k))) 6 0 3 (nI ((gl (goodK a) k).length + 1))) (k + 1) := by
        refine ⟨SX.i (SX.r u1), ?_, fun i g hi => ?_, ?_, u5, u6⟩
        · rw [gi_si, if_pos ⟨rfl, rfl, rfl⟩, gl_t q]; simp
        · rw [gl_t q] at hi
          rw [gr_si, gr_sr]
          by_cases e : i = (gl (goodK a) k).length
          · subst e
            rw [if_pos ⟨rfl, rfl, rfl⟩]
            simp at hi
            rw [hi]
          · rw [if_neg (fun z => e z.2.2)]
            refine u3 i g ?_
            rw [← hi]
            have : i < (gl (goodK a) k ++ [k]).length := by
              rcases Nat.lt_or_ge i (gl (goodK a) k ++ [k]).length with z | z
              · exact z
              · rw [List.getElem?_eq_none z] at hi; cases hi
            simp at this
            rw [List.getElem?_append_left (by omega)]
        · rw [gi_si, if_neg (by omega)]; exact u4
      obtain ⟨V, v1, w⟩ := ih (k + 1) (by omega) _ hV
      refine ⟨V, v1, fun post hp => ⟨fun c => absurd (by rw [g8] at c; exact c) (nI_ge hlt (by omega)), fun _ => c_bidAtI hc hk.x.1 hlt ⟨fun c => (by cases c), fun j e => ?_⟩⟩⟩
      cases e
      refine c_isGood hc hk.x.1 hlt (fun _ => ⟨fun c => absurd c (by decide), fun _ => ?_⟩) (fun c => absurd (goodK_x.mpr q) c)
      unfold wp_X6_add
      rw [u2]
      refine ⟨fun c => absurd c (nI_pos (by omega)), fun _ => ⟨fun c => absurd c (nI_ge (b := 18) (by omega) (by omega)), fun _ => ⟨vp_in_nI (by omega) (by omega), fun S3 e3 S4 e4 v ev => ?_⟩⟩⟩
      have f3 : gi S3 6 0 3 = nI (gl (goodK a) k).length := by rw [e3]; exact u2
      rw [f3, nI_1, e3, nI_clamp (by omega)] at e4
      rw [ev, nI_1, e4]
      exact w post hp
    · have hV : gdI a ob S U (k + 1) := by
        unfold gdI
        rw [gl_f q]
        exact ⟨u1, u2, u3, u4, u5, u6⟩
      obtain ⟨V, v1, w⟩ := ih (k + 1) (by omega) U hV
      refine ⟨V, v1, fun post hp => ⟨fun c => absurd (by rw [g8] at c; exact c) (nI_ge hlt (by omega)), fun _ => c_bidAtI hc hk.x.1 hlt ⟨fun c => (by cases c), fun j e => ?_⟩⟩⟩
      cases e
      refine c_isGood hc hk.x.1 hlt (fun c => absurd (goodK_x.mp c) q) (fun _ => ⟨fun _ v ev => ?_, fun c => absurd rfl c⟩)
      rw [ev, nI_1]
      exact w post hp
