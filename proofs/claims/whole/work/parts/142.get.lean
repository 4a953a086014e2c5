def Inv (S : St) : Prop := ∃ ob, CR S (pr S) ob ∧ Ok (pr S)
/-- both answer r; the reference goes on from where the class left the store -/
def Both {ρ : Type} (w8 w9 : St → (ρ → St → Prop) → Prop) (S : St) : Prop := ∃ (r : ρ) (S1 S2 : St), (∀ post, post r S1 → w8 S post) ∧ (∀ post, post r S2 → w9 S1 post) ∧ Inv S2
theorem Both.ro {ρ : Type} {w8 w9 : St → (ρ → St → Prop) → Prop} {S : St} (hI : Inv S) (r : ρ) (h8 : ∀ post, post r S → w8 S post) (h9 : ∀ post, post r S → w9 S post) : Both w8 w9 S := ⟨r, S, S, h8, h9, hI⟩
theorem r_isBoughtI {S : St} {i : Nat} (hk : OkC (pr S)) (hl : OkL (pr S)) (hi : i < aL (pr S)) {post : Int32 → St → Prop} (h1 : (sT (pr S) i = 3 ∨ sT (pr S) i = 2) → post 1 S) (h0 : ¬ (sT (pr S) i = 3 ∨ sT (pr S) i = 2) → post 0 S) : wp_X9_isBought (nI i) S post := by
  have hL := hk.2.1
  have hin : vp_in (nI i) 60 := vp_in_nI (by omega) (by omega)
  refine r_isLotI hk hi ?_
  refine ⟨fun c => absurd c (by decide), fun _ => ⟨hin, ?_⟩⟩
  rw [nI_clamp (by omega), show gi S 20 0 i = qi (pr S) 20 i from gi_pr rfl]
  have e3 := st_eq (k := 3) hl hi (by omega)
  have e2 := st_eq (k := 2) hl hi (by omega)
  exact ⟨fun c => h1 (Or.inl (e3.mp c)), fun c => ⟨hin, fun c2 => h0 (fun q => q.elim (fun z => c (e3.mpr z)) (fun z => c2 (e2.mpr z))), fun c2 => h1 (Or.inr (e2.mp c2))⟩⟩
theorem r_isBoughtN {S : St} {p : Int32} (hk : OkC (pr S)) (hn : p < 0 ∨ nI (aL (pr S)) ≤ p) {post : Int32 → St → Prop} (hp : post 0 S) : wp_X9_isBought p S post := by
  refine r_isLotN hk hn ?_
  exact ⟨fun _ => hp, fun c => absurd rfl c⟩
theorem b_winner {S : St} (hI : Inv S) (p : Int32) : Both (wp_X8_winner p) (wp_X9_winner p) S := by
  obtain ⟨ob, h, hk⟩ := id hI
  have hL := hk.1.2.1
  rcases ix_or p (aL (pr S)) (by omega) with ⟨i, hi, rfl⟩ | hn
  · by_cases ht : sT (pr S) i = 3 ∨ sT (pr S) i = 2
    · refine Both.ro hI (qi (pr S) 21 i) (fun post hp => ?_) (fun post hp => ?_)
      · refine c_lotAtI h hk.1 hi ?_
        refine ⟨fun c => (by cases c), fun j e => ?_⟩
        cases e
        refine c_hasTaker h hi (fun _ => ?_) (fun c => absurd ht c)
        exact ⟨fun _ => (by rw [(h.2.2.1 i hi ht.symm).1]; exact hp), fun c => absurd c (by decide)⟩
      · refine r_isBoughtI hk.1 hk.2.1 hi (fun _ => ?_) (fun c => absurd ht c)
        refine ⟨fun c => absurd c (by decide), fun _ => ⟨vp_in_nI (by omega) (by omega), ?_⟩⟩
        rw [nI_clamp (by omega), show gi S 21 0 i = qi (pr S) 21 i from gi_pr rfl]; exact hp
    · refine Both.ro hI (-1) (fun post hp => ?_) (fun post hp => ?_)
      · refine c_lotAtI h hk.1 hi ?_
        refine ⟨fun c => (by cases c), fun j e => ?_⟩
        cases e
        refine c_hasTaker h hi (fun c => absurd c ht) (fun _ => ?_)
        exact ⟨fun c => absurd rfl c, fun _ => hp⟩
      · refine r_isBoughtI hk.1 hk.2.1 hi (fun c => absurd c ht) (fun _ => ?_)
        exact ⟨fun _ => hp, fun c => absurd rfl c⟩
  · refine Both.ro hI (-1) (fun post hp => ?_) (fun post hp => ?_)
    · refine c_lotAtN h hk.1 hn ?_
      exact ⟨fun _ => hp, fun j e => (by cases e)⟩
    · refine r_isBoughtN hk.1 hn ?_
      exact ⟨fun _ => hp, fun c => absurd rfl c⟩
theorem b_price {S : St} (hI : Inv S) (p : Int32) : Both (wp_X8_price p) (wp_X9_price p) S := by
  obtain ⟨ob, h, hk⟩ := id hI
  have hL := hk.1.2.1
  rcases ix_or p (aL (pr S)) (by omega) with ⟨i, hi, rfl⟩ | hn
  · by_cases ht : sT (pr S) i = 3 ∨ sT (pr S) i = 2
    · refine Both.ro hI (qj (pr S) 22 i) (fun post hp => ?_) (fun post hp => ?_)
      · refine c_lotAtI h hk.1 hi ?_
        refine ⟨fun c => (by cases c), fun j e => ?_⟩
        cases e
        refine c_hasTaker h hi (fun _ => ?_) (fun c => absurd ht c)
        exact ⟨fun _ => (by rw [(h.2.2.1 i hi ht.symm).2]; exact hp), fun c => absurd c (by decide)⟩
      · refine r_isBoughtI hk.1 hk.2.1 hi (fun _ => ?_) (fun c => absurd ht c)
        refine ⟨fun c => absurd c (by decide), fun _ => ⟨vp_in_nI (by omega) (by omega), ?_⟩⟩
        rw [nI_clamp (by omega), show gj S 22 0 i = qj (pr S) 22 i from gj_pr rfl]; exact hp
    · refine Both.ro hI (-1) (fun post hp => ?_) (fun post hp => ?_)
      · refine c_lotAtI h hk.1 hi ?_
        refine ⟨fun c => (by cases c), fun j e => ?_⟩
        cases e
        refine c_hasTaker h hi (fun c => absurd c ht) (fun _ => ?_)
        exact ⟨fun c => absurd rfl c, fun _ => hp⟩
      · refine r_isBoughtI hk.1 hk.2.1 hi (fun c => absurd c ht) (fun _ => ?_)
        exact ⟨fun _ => hp, fun c => absurd rfl c⟩
  · refine Both.ro hI (-1) (fun post hp => ?_) (fun post hp => ?_)
    · refine c_lotAtN h hk.1 hn ?_
      exact ⟨fun _ => hp, fun j e => (by cases e)⟩
    · refine r_isBoughtN hk.1 hn ?_
      exact ⟨fun _ => hp, fun c => absurd rfl c⟩
theorem b_left {S : St} (hI : Inv S) (p : Int32) : Both (wp_X8_left p) (wp_X9_left p) S := by
  obtain ⟨ob, h, hk⟩ := id hI
  have hL := hk.1.2.1
  rcases ix_or p (aL (pr S)) (by omega) with ⟨i, hi, rfl⟩ | hn
  · refine Both.ro hI (qj (pr S) 18 i) (fun post hp => ?_) (fun post hp => ?_)
    · refine c_lotAtI h hk.1 hi ?_
      refine ⟨fun c => (by cases c), fun j e => ?_⟩
      cases e
      rw [(h.2.1 i hi).2.2.2.1]; exact hp
    · refine r_isLotI hk.1 hi ?_
      refine ⟨fun c => absurd c (by decide), fun _ => ⟨vp_in_nI (by omega) (by omega), ?_⟩⟩
      rw [nI_clamp (by omega), show gj S 18 0 i = qj (pr S) 18 i from gj_pr rfl]; exact hp
  · refine Both.ro hI (-1) (fun post hp => ?_) (fun post hp => ?_)
    · refine c_lotAtN h hk.1 hn ?_
      exact ⟨fun _ => hp, fun j e => (by cases e)⟩
    · refine r_isLotN hk.1 hn ?_
      exact ⟨fun _ => hp, fun c => absurd rfl c⟩
theorem b_held {S : St} (hI : Inv S) (p : Int32) : Both (wp_X8_held p) (wp_X9_held p) S := by
  obtain ⟨ob, h, hk⟩ := id hI
  have hB := hk.1.2.2.2.1
  rcases ix_or p (aB (pr S)) (by omega) with ⟨i, hi, rfl⟩ | hn
  · refine Both.ro hI (heldF (pr S) i (aL (pr S))) (fun post hp => ?_) (fun post hp => ?_)
    · refine c_buyerAtI h hk.1 hi ?_
      refine ⟨fun c => (by cases c), fun j e => ?_⟩
      cases e
      refine c_freeOf h hk.1 hi ?_
      show post (gj S 1 i 1 - (qj (pr S) 28 i - heldF (pr S) i (aL (pr S)))) S
      rw [(h.2.2.2.2.1 i hi).2.2.1, show qj (pr S) 28 i - (qj (pr S) 28 i - heldF (pr S) i (aL (pr S))) = heldF (pr S) i (aL (pr S)) by grind]
      exact hp
    · refine r_isBuyerI hk.1 hi ?_
      exact ⟨fun c => absurd c (by decide), fun _ => r_heldBy hk.1 hk.2.1 hp⟩
  · refine Both.ro hI (-1) (fun post hp => ?_) (fun post hp => ?_)
    · refine c_buyerAtN h hk.1 hn ?_
      exact ⟨fun _ => hp, fun j e => (by cases e)⟩
    · refine r_isBuyerN hk.1 hn ?_
      exact ⟨fun _ => hp, fun c => absurd rfl c⟩
theorem b_fee {S : St} (hI : Inv S) (p : Int32) : Both (wp_X8_fee p) (wp_X9_fee p) S := by
  obtain ⟨ob, h, hk⟩ := id hI
  have hL := hk.1.2.1
  rcases ix_or p (aL (pr S)) (by omega) with ⟨i, hi, rfl⟩ | hn
  · have e3 := st_eq (k := 3) hk.2.1 hi (by omega)
    have hin : vp_in (nI i) 60 := vp_in_nI (by omega) (by omega)
    have hg : gr S 5 i 4 = some (sT (pr S) i) := (h.2.1 i hi).2.2.2.2.2.1
    by_cases ht : sT (pr S) i = 3
    · refine Both.ro hI ((qj (pr S) 22 i + 49) / 50 + 30) (fun post hp => ?_) (fun post hp => ?_)
      · refine c_lotAtI h hk.1 hi ?_
        refine ⟨fun c => (by cases c), fun j e => ?_⟩
        cases e
        rw [hg, ht]
        refine ⟨fun _ => ?_, fun c => absurd rfl c⟩
        rw [(h.2.2.1 i hi (Or.inr ht)).2]; exact hp
      · refine r_isLotI hk.1 hi ?_
        refine ⟨fun c => absurd c (by decide), fun _ => ⟨hin, ?_⟩⟩
        rw [nI_clamp (by omega), show gi S 20 0 i = qi (pr S) 20 i from gi_pr rfl, show gj S 22 0 i = qj (pr S) 22 i from gj_pr rfl]
        refine ⟨fun c => absurd (e3.mpr ht) c, fun _ => ⟨hin, by decide, ?_⟩⟩
        rw [show qj (pr S) 22 i + 50 - 1 = qj (pr S) 22 i + 49 by grind]; exact hp
    · refine Both.ro hI (-1) (fun post hp => ?_) (fun post hp => ?_)
      · refine c_lotAtI h hk.1 hi ?_
        refine ⟨fun c => (by cases c), fun j e => ?_⟩
        cases e
        rw [hg]
        exact ⟨fun c => absurd (Option.some.inj c) ht, fun _ => hp⟩
      · refine r_isLotI hk.1 hi ?_
        refine ⟨fun c => absurd c (by decide), fun _ => ⟨hin, ?_⟩⟩
        rw [nI_clamp (by omega), show gi S 20 0 i = qi (pr S) 20 i from gi_pr rfl]
        exact ⟨fun _ => hp, fun c => absurd (e3.mp c) ht⟩
  · refine Both.ro hI (-1) (fun post hp => ?_) (fun post hp => ?_)
    · refine c_lotAtN h hk.1 hn ?_
      exact ⟨fun _ => hp, fun j e => (by cases e)⟩
    · refine r_isLotN hk.1 hn ?_
      exact ⟨fun _ => hp, fun c => absurd rfl c⟩
theorem b_clock {S : St} (hI : Inv S) : Both wp_X8_clock wp_X9_clock S := by
  obtain ⟨ob, h, hk⟩ := id hI
  obtain ⟨k1, k2, k3, k4, k5, k6, k7⟩ := h.2.2.2.2.2.2.1
  have g : gi S 8 0 17 = qi (pr S) 8 17 := gi_pr rfl
  by_cases hn : qi (pr S) 8 17 = -1
  · refine Both.ro hI (-1) (fun post hp => ?_) (fun post hp => ?_)
    · unfold wp_X8_clock
      rw [k1, if_pos hn]
      exact ⟨fun _ => hp, fun j e => (by cases e)⟩
    · unfold wp_X9_clock
      rw [g]
      exact ⟨fun c => absurd hn c, fun _ => hp⟩
  · refine Both.ro hI (qj (pr S) 8 20 - qj (pr S) 8 21 * (qj (pr S) 8 18 / 100)) (fun post hp => ?_) (fun post hp => ?_)
    · unfold wp_X8_clock
      rw [k1, if_neg hn]
      refine ⟨fun c => (by cases c), fun j e => ?_⟩
      show post (gj S 4 0 1 - gj S 4 0 2 * (gj S 4 0 4 / 100)) S
      rw [k2, k3, k5]; exact hp
    · unfold wp_X9_clock
      rw [g]
      exact ⟨fun _ => hp, fun c => absurd c hn⟩
theorem b_sum {S : St} (hI : Inv S) : Both wp_X8_sum wp_X9_sum S := by
  obtain ⟨ob, h, hk⟩ := id hI
  have e : gj S 6 0 5 = gj S 8 0 28 := h.2.2.2.2.2.2.2.2.1.2.1
  exact Both.ro hI (gj S 8 0 28) (fun post hp => (by unfold wp_X8_sum; rw [e]; exact hp)) (fun post hp => hp)
theorem b_proved {S : St} (hI : Inv S) : Both wp_X8_proved wp_X9_proved S := by
  obtain ⟨ob, h, hk⟩ := id hI
  have e : gi S 7 0 10 = gi S 8 0 29 := h.2.2.2.2.2.2.2.2.1.2.2
  have hz : bz (gi S 8 0 29) := hk.2.2.2.1.2.1
  exact Both.ro hI (gi S 8 0 29) (fun post hp => (by unfold wp_X8_proved; rw [e]; exact ⟨hz, hp⟩)) (fun post hp => ⟨hz, hp⟩)
theorem b_wins {S : St} (hI : Inv S) (p : Int32) : Both (wp_X8_wins p) (wp_X9_wins p) S := by
  obtain ⟨ob, h, hk⟩ := id hI
  have e : gi S 6 0 4 = gi S 8 0 27 := h.2.2.2.2.2.2.2.2.1.1
  rcases ix_or p 18 (by omega) with ⟨i, hi, rfl⟩ | hn
  · have n1 : ¬ (18 : Int32) ≤ nI i := fun c => nI_ge (a := i) (b := 18) hi (by omega) c
    by_cases hb : bt (gi S 8 0 27) i = true
    · refine Both.ro hI 1 (fun post hp => ?_) (fun post hp => ?_)
      · unfold wp_X8_wins wp_X6_hasChosen
        rw [e, bit_u (by omega), if_pos hb]
        exact ⟨fun c => absurd c (nI_pos (by omega)), fun _ => ⟨fun c => absurd c n1, fun _ => ⟨fun c => absurd c (by decide), fun _ => ⟨Or.inr rfl, hp⟩⟩⟩⟩
      · unfold wp_X9_wins
        rw [bit_s (by omega), if_pos hb]
        exact ⟨fun c => absurd c (nI_pos (by omega)), fun _ => ⟨fun c => absurd c n1, fun _ => ⟨fun c => absurd rfl c, fun _ => hp⟩⟩⟩
    · refine Both.ro hI 0 (fun post hp => ?_) (fun post hp => ?_)
      · unfold wp_X8_wins wp_X6_hasChosen
        rw [e, bit_u (by omega), if_neg hb]
        exact ⟨fun c => absurd c (nI_pos (by omega)), fun _ => ⟨fun c => absurd c n1, fun _ => ⟨fun _ => ⟨Or.inl rfl, hp⟩, fun c => absurd rfl c⟩⟩⟩
      · unfold wp_X9_wins
        rw [bit_s (by omega), if_neg hb]
        exact ⟨fun c => absurd c (nI_pos (by omega)), fun _ => ⟨fun c => absurd c n1, fun _ => ⟨fun _ => hp, fun c => absurd c (by decide)⟩⟩⟩
  · refine Both.ro hI 0 (fun post hp => ?_) (fun post hp => ?_)
    · refine ⟨fun _ => ⟨Or.inl rfl, hp⟩, fun c => ⟨fun _ => ⟨Or.inl rfl, hp⟩, fun c2 => ?_⟩⟩
      exact absurd hn (fun q => q.elim c (fun z => c2 z))
    · refine ⟨fun _ => hp, fun c => ⟨fun _ => hp, fun c2 => ?_⟩⟩
      exact absurd hn (fun q => q.elim c (fun z => c2 z))
theorem c_atI {S : St} {a : RS} {ob i : Nat} (h : CR S a ob) (hk : OkC a) (hi : i < aR a) {post : Option Nat → St → Prop} (hp : post (some i) S) : wp_X2_at (nI i) S post := by
  obtain ⟨h1, -, h3⟩ := h.2.2.2.2.2.2.2.2.2
  have h0 : gi S 2 0 1 = nI (aR a) := h1.trans hk.2.2.2.2.2.2.1
  have hR := hk.r240
  refine ⟨fun c => absurd c (nI_pos (by omega)), fun _ => ⟨fun c => absurd (h0 ▸ c) (nI_ge hi (by omega)), fun _ => ⟨fun _ => ⟨vp_in_nI (by omega) (by omega), fun c => ?_, fun j e => ?_⟩, fun c => absurd (show nI i < nI 240 from nI_lt (by omega) (by omega)) c⟩⟩⟩
  · rw [nI_clamp (by omega), (h3 i hi).1] at c; cases c
  · rw [nI_clamp (by omega), (h3 i hi).1] at e; cases e; exact hp
theorem c_atN {S : St} {a : RS} {ob : Nat} (h : CR S a ob) (hk : OkC a) {p : Int32} (hn : p < 0 ∨ nI (aR a) ≤ p) {post : Option Nat → St → Prop} (hp : post none S) : wp_X2_at p S post := by
  have h0 : gi S 2 0 1 = nI (aR a) := h.2.2.2.2.2.2.2.2.2.1.trans hk.2.2.2.2.2.2.1
  refine ⟨fun _ => hp, fun c => ⟨fun _ => hp, fun c2 => ?_⟩⟩
  rcases hn with q | q
  · exact absurd q c
  · exact absurd (h0.symm ▸ q) c2
theorem toInt_eq {x : Int32} {n : Int32} : x.toInt = n.toInt ↔ x = n := Int32.toInt_inj
theorem b_record {S : St} (hI : Inv S) (p w : Int32) : Both (wp_X8_record p w) (wp_X9_record p w) S := by
  obtain ⟨ob, h, hk⟩ := id hI
  have hR := hk.1.r240
  have g30 : gi S 8 0 30 = nI (aR (pr S)) := (gi_pr rfl).trans hk.1.2.2.2.2.2.2.1
  rcases ix_or p (aR (pr S)) (by omega) with ⟨i, hi, rfl⟩ | hn
  · obtain ⟨-, e0, e1, e2, e3, e4⟩ := h.2.2.2.2.2.2.2.2.2.2.2 i hi
    have hin : vp_in (nI i) 1024 := vp_in_nI (by omega) (by omega)
    have d0 : w.toInt = 0 ↔ w = 0 := toInt_eq (n := 0)
    have d1 : w.toInt = 1 ↔ w = 1 := toInt_eq (n := 1)
    have d2 : w.toInt = 2 ↔ w = 2 := toInt_eq (n := 2)
    have d3 : w.toInt = 3 ↔ w = 3 := toInt_eq (n := 3)
    have d4 : w.toInt = 4 ↔ w = 4 := toInt_eq (n := 4)
    have h8 : ∀ r, ((w.toInt < 0 ∨ 4 < w.toInt → r = -1) ∧ (w.toInt = 0 → r = qi (pr S) 34 i) ∧ (w.toInt = 1 → r = qi (pr S) 35 i) ∧ (w.toInt = 2 → r = qi (pr S) 36 i) ∧ (w.toInt = 3 → r = ((qj (pr S) 37 i) - (qj (pr S) 37 i) / (1000000000 : Int64) * (1000000000 : Int64)).toInt32) ∧ (w.toInt = 4 → r = qi (pr S) 38 i)) → Both (wp_X8_record (nI i) w) (wp_X9_record (nI i) w) S := by
      rintro r ⟨f, f0, f1, f2, f3, f4⟩
      refine Both.ro hI r (fun post hp => ?_) (fun post hp => ?_)
      · refine c_atI h hk.1 hi ?_
        refine ⟨fun c => (by cases c), fun j e => ?_⟩
        cases e
        rw [e0, e1, e2, e3, e4]
        exact ⟨fun c => f c ▸ hp, fun c => f0 c ▸ hp, fun c => f1 c ▸ hp, fun c => f2 c ▸ hp, fun c => f3 c ▸ hp, fun c => f4 c ▸ hp⟩
      · refine ⟨fun c => absurd c (nI_pos (by omega)), fun _ => ?_⟩
        rw [g30, nI_clamp (by omega), show gi S 34 0 i = qi (pr S) 34 i from gi_pr rfl, show gi S 35 0 i = qi (pr S) 35 i from gi_pr rfl, show gi S 36 0 i = qi (pr S) 36 i from gi_pr rfl, show gj S 37 0 i = qj (pr S) 37 i from gj_pr rfl, show gi S 38 0 i = qi (pr S) 38 i from gi_pr rfl]
        refine ⟨fun _ => ⟨fun c0 => ⟨fun c1 => ⟨fun c2 => ⟨fun c3 => ⟨fun c4 => f (by
          have a0 : ¬ w.toInt = 0 := fun z => c0 (d0.mp z)
          have a1 : ¬ w.toInt = 1 := fun z => c1 (d1.mp z)
          have a2 : ¬ w.toInt = 2 := fun z => c2 (d2.mp z)
          have a3 : ¬ w.toInt = 3 := fun z => c3 (d3.mp z)
          have a4 : ¬ w.toInt = 4 := fun z => c4 (d4.mp z)
          omega) ▸ hp, fun c => ⟨hin, f4 (d4.mpr c) ▸ hp⟩⟩, fun c => ⟨hin, f3 (d3.mpr c) ▸ hp⟩⟩, fun c => ⟨hin, f2 (d2.mpr c) ▸ hp⟩⟩, fun c => ⟨hin, f1 (d1.mpr c) ▸ hp⟩⟩, fun c => ⟨hin, f0 (d0.mpr c) ▸ hp⟩⟩, fun c => absurd (nI_lt hi (by omega)) c⟩
    rcases (show (w.toInt < 0 ∨ 4 < w.toInt) ∨ w.toInt = 0 ∨ w.toInt = 1 ∨ w.toInt = 2 ∨ w.toInt = 3 ∨ w.toInt = 4 by omega) with c | c | c | c | c | c
    · exact h8 (-1) ⟨fun _ => rfl, fun q => by omega, fun q => by omega, fun q => by omega, fun q => by omega, fun q => by omega⟩
    · exact h8 (qi (pr S) 34 i) ⟨fun q => by omega, fun _ => rfl, fun q => by omega, fun q => by omega, fun q => by omega, fun q => by omega⟩
    · exact h8 (qi (pr S) 35 i) ⟨fun q => by omega, fun q => by omega, fun _ => rfl, fun q => by omega, fun q => by omega, fun q => by omega⟩
    · exact h8 (qi (pr S) 36 i) ⟨fun q => by omega, fun q => by omega, fun q => by omega, fun _ => rfl, fun q => by omega, fun q => by omega⟩
    · exact h8 _ ⟨fun q => by omega, fun q => by omega, fun q => by omega, fun q => by omega, fun _ => rfl, fun q => by omega⟩
    · exact h8 (qi (pr S) 38 i) ⟨fun q => by omega, fun q => by omega, fun q => by omega, fun q => by omega, fun q => by omega, fun _ => rfl⟩
  · refine Both.ro hI (-1) (fun post hp => ?_) (fun post hp => ?_)
    · refine c_atN h hk.1 hn ?_
      exact ⟨fun _ => hp, fun j e => (by cases e)⟩
    · refine ⟨fun _ => hp, fun c => ⟨fun c2 => ?_, fun _ => hp⟩⟩
      rw [g30] at c2
      rcases hn with q | q
      · exact absurd q c
      · exact absurd c2 (Int32.not_lt.mpr q)
