/-! ===== the first store, and the law ===== -/
theorem Inv_init (A : Nat → Nat) (z : Nat) : Inv (S_init A z) := by
  have hi : ∀ k f, qi (pr (S_init A z)) k f = if isR k = true then (if k = 2 ∧ f = 2 then 1 else if k = 8 ∧ f = 17 then -1 else 0) else 0 := fun k f => rfl
  have hj : ∀ k f, qj (pr (S_init A z)) k f = 0 := fun k f => by
    show (if isR k = true then (0 : Int64) else 0) = 0
    split <;> rfl
  have e8 : ∀ f, f ≠ 17 → qi (pr (S_init A z)) 8 f = 0 := fun f hf => by rw [hi, if_pos (show isR 8 = true from rfl), if_neg (fun q => absurd q.1 (by decide)), if_neg (fun q => hf q.2)]
  have eL : aL (pr (S_init A z)) = 0 := by unfold aL; rw [e8 0 (by decide)]; rfl
  have eB : aB (pr (S_init A z)) = 0 := by unfold aB; rw [e8 12 (by decide)]; rfl
  have eD : aD (pr (S_init A z)) = 0 := by unfold aD; rw [e8 23 (by decide)]; rfl
  have eR : aR (pr (S_init A z)) = 0 := by unfold aR; rw [e8 30 (by decide)]; rfl
  have e17 : qi (pr (S_init A z)) 8 17 = -1 := rfl
  refine ⟨0, ⟨?_, ?_, ?_, ?_, ?_, ?_, ?_, ?_, ?_, ?_⟩, ?_, ?_, ?_, ?_, ?_, ?_, ?_, ?_, ?_⟩
  · unfold CRc
    rw [eL, eB, eD, eR, e8 0 (by decide), e8 12 (by decide), e8 23 (by decide)]
    exact ⟨rfl, rfl, rfl, rfl, rfl, rfl, rfl⟩
  · intro i hi; rw [eL] at hi; omega
  · intro i hi; rw [eL] at hi; omega
  · intro i hi; rw [eL] at hi; omega
  · intro i hi; rw [eB] at hi; omega
  · intro i hi; rw [eB] at hi; omega
  · unfold CRk
    rw [e17, hj, hj, hj, hj, hj, e8 22 (by decide)]
    exact ⟨rfl, rfl, rfl, rfl, rfl, rfl, rfl⟩
  · intro i hi; rw [eD] at hi; omega
  · unfold CRs
    rw [e8 27 (by decide), hj, e8 29 (by decide)]
    exact ⟨rfl, rfl, rfl⟩
  · unfold CRr lastA
    rw [eR, e8 30 (by decide)]
    exact ⟨rfl, rfl, fun r hr => absurd hr (by omega)⟩
  · unfold OkC
    rw [eL, eB, eD, eR, e8 0 (by decide), e8 12 (by decide), e8 23 (by decide), e8 30 (by decide)]
    exact ⟨rfl, by omega, rfl, by omega, rfl, by omega, rfl, Nat.le_refl _⟩
  · intro i hi; rw [eL] at hi; omega
  · intro i hi; rw [eL] at hi; omega
  · exact ⟨Or.inl (e8 22 (by decide)), Or.inl (e8 29 (by decide)), Or.inl e17⟩
  · intro i hi; rw [eB] at hi; omega
  · exact fun c => absurd e17 c
  · intro i hi; rw [eD] at hi; omega
  · refine ⟨fun i _ => ⟨?_, ?_, ?_, ?_⟩, fun b _ => hj 29 b, fun i hi => ?_⟩
    · rw [hi]; rfl
    · rw [hi]; rfl
    · rw [hi]; rfl
    · rw [hi]; rfl
    · rw [eL] at hi; omega
  · intro i hi; rw [eR] at hi; omega
theorem nI_plus (a j : Nat) : nI a + nI j = nI (a + j) := nI_add a j
set_option maxHeartbeats 4000000 in
theorem law_step {L : Nat} (hL : L ≤ 384) (xs : Nat → Int32) {m : Nat} (hm : m + 6 ≤ L) {S : St} (hI : Inv S) {K : Int32 → St → Prop} (hK : ∀ S2, Inv S2 → K (nI (m + 6)) S2) : bd_L_law_18 L xs K (nI m) S := by
  have nx : ∀ S2, Inv S2 → ∀ v : Int32, v = nI m + (6 : Int32) → K v S2 := fun S2 hi v ev => by
    rw [ev, show (6 : Int32) = nI 6 from rfl, nI_plus]; exact hK S2 hi
  have v0 : vp_in (nI m) L := vp_in_nI (by omega) (by omega)
  have v1 : vp_in (nI m + (1 : Int32)) L := by rw [show (1 : Int32) = nI 1 from rfl, nI_plus]; exact vp_in_nI (by omega) (by omega)
  have v2 : vp_in (nI m + (2 : Int32)) L := by rw [show (2 : Int32) = nI 2 from rfl, nI_plus]; exact vp_in_nI (by omega) (by omega)
  have v3 : vp_in (nI m + (3 : Int32)) L := by rw [show (3 : Int32) = nI 3 from rfl, nI_plus]; exact vp_in_nI (by omega) (by omega)
  have v4 : vp_in (nI m + (4 : Int32)) L := by rw [show (4 : Int32) = nI 4 from rfl, nI_plus]; exact vp_in_nI (by omega) (by omega)
  have v5 : vp_in (nI m + (5 : Int32)) L := by rw [show (5 : Int32) = nI 5 from rfl, nI_plus]; exact vp_in_nI (by omega) (by omega)
  have hlast : ¬ ((Int32.ofNat L) - (6 : Int32)) < nI m := by
    rw [show Int32.ofNat L - 6 = nI (L - 6) from nx_sub (a := L) (b := 6) (by omega)]
    exact fun c => absurd ((nI_ltI (by omega) (by omega)).mp c) (by omega)
  refine ⟨fun c => absurd c hlast, fun _ => ⟨v0, fun _ v ev => nx S hI v ev, ?_, ?_, ?_, ?_, ?_, ?_, ?_, ?_, ?_, ?_, ?_, ?_, ?_, ?_, ?_, ?_, ?_, ?_, ?_, ?_, ?_, ?_, ?_, ?_, ?_, ?_, ?_, ?_⟩⟩
  · intro _
    obtain ⟨r, S1, S2, p8, p9, hi⟩ := b_lot hI _ _ _
    exact ⟨v1, v2, v3, v4, v5, p8 _ ⟨v1, v2, v3, v4, v5, p9 _ ⟨fun _ v ev => nx S2 hi v ev, fun c => absurd rfl c⟩⟩⟩
  · intro _
    obtain ⟨r, S1, S2, p8, p9, hi⟩ := b_buyer hI _
    exact ⟨v1, v2, p8 _ ⟨v1, v2, p9 _ ⟨fun _ v ev => nx S2 hi v ev, fun c => absurd rfl c⟩⟩⟩
  · intro _
    obtain ⟨r, S1, S2, p8, p9, hi⟩ := Sim.both hI (fun a ha => s_start _ _ _ ha)
    exact ⟨v1, v2, v3, v4, v5, p8 _ ⟨v1, v2, v3, v4, v5, p9 _ ⟨fun _ v ev => nx S2 hi v ev, fun c => absurd rfl c⟩⟩⟩
  · intro _
    obtain ⟨r, S1, S2, p8, p9, hi⟩ := Sim.both hI (fun a ha => s_press _ _ ha)
    exact ⟨v1, v2, v3, p8 _ ⟨v1, v2, v3, p9 _ ⟨fun _ v ev => nx S2 hi v ev, fun c => absurd rfl c⟩⟩⟩
  · intro _
    obtain ⟨r, S1, S2, p8, p9, hi⟩ := b_delay hI _ _
    exact ⟨v1, v2, v3, p8 _ ⟨v1, v2, v3, p9 _ ⟨fun _ v ev => nx S2 hi v ev, fun c => absurd rfl c⟩⟩⟩
  · intro _
    obtain ⟨r, S1, S2, p8, p9, hi⟩ := Sim.both hI (fun a ha => s_tick _ ha)
    exact ⟨v1, v2, p8 _ ⟨v1, v2, p9 _ ⟨fun _ v ev => nx S2 hi v ev, fun c => absurd rfl c⟩⟩⟩
  · intro _
    obtain ⟨r, S1, S2, p8, p9, hi⟩ := b_winner hI _
    exact ⟨v1, p8 _ ⟨v1, p9 _ ⟨fun _ v ev => nx S2 hi v ev, fun c => absurd rfl c⟩⟩⟩
  · intro _
    obtain ⟨r, S1, S2, p8, p9, hi⟩ := b_price hI _
    exact ⟨v1, p8 _ ⟨v1, p9 _ ⟨fun _ v ev => nx S2 hi v ev, fun c => absurd rfl c⟩⟩⟩
  · intro _
    obtain ⟨r, S1, S2, p8, p9, hi⟩ := b_part hI _ _
    exact ⟨v1, v2, v3, p8 _ ⟨v1, v2, v3, p9 _ ⟨fun _ v ev => nx S2 hi v ev, fun c => absurd rfl c⟩⟩⟩
  · intro _
    obtain ⟨r, S1, S2, p8, p9, hi⟩ := b_left hI _
    exact ⟨v1, p8 _ ⟨v1, p9 _ ⟨fun _ v ev => nx S2 hi v ev, fun c => absurd rfl c⟩⟩⟩
  · intro _
    refine ⟨v1, v2, v3, fun q => ?_, fun q => ?_⟩
    · obtain ⟨r, S1, S2, p8, p9, hi⟩ := Sim.both hI (fun a ha => s_outage _ (0 : Int32) (Or.inl rfl) ha)
      exact p8 _ ⟨v1, v2, v3, fun _ => p9 _ ⟨fun _ v ev => nx S2 hi v ev, fun c => absurd rfl c⟩, fun c => absurd q c⟩
    · obtain ⟨r, S1, S2, p8, p9, hi⟩ := Sim.both hI (fun a ha => s_outage _ (1 : Int32) (Or.inr rfl) ha)
      exact p8 _ ⟨v1, v2, v3, fun c => absurd c q, fun _ => p9 _ ⟨fun _ v ev => nx S2 hi v ev, fun c => absurd rfl c⟩⟩
  · intro _
    obtain ⟨r, S1, S2, p8, p9, hi⟩ := b_clock hI
    exact p8 _ (p9 _ ⟨fun _ v ev => nx S2 hi v ev, fun c => absurd rfl c⟩)
  · intro _
    obtain ⟨r, S1, S2, p8, p9, hi⟩ := Sim.both hI (fun a ha => s_rise _ _ _ ha)
    exact ⟨v1, v2, v3, v4, p8 _ ⟨v1, v2, v3, v4, p9 _ ⟨fun _ v ev => nx S2 hi v ev, fun c => absurd rfl c⟩⟩⟩
  · intro _
    obtain ⟨r, S1, S2, p8, p9, hi⟩ := b_bid hI _ _
    exact ⟨v1, v2, v3, p8 _ ⟨v1, v2, v3, p9 _ ⟨fun _ v ev => nx S2 hi v ev, fun c => absurd rfl c⟩⟩⟩
  · intro _
    obtain ⟨r, S1, S2, p8, p9, hi⟩ := b_on hI _ _
    exact ⟨v1, v2, p8 _ ⟨v1, v2, p9 _ ⟨fun _ v ev => nx S2 hi v ev, fun c => absurd rfl c⟩⟩⟩
  · intro _
    obtain ⟨r, S1, S2, p8, p9, hi⟩ := b_sets hI _
    exact ⟨v1, v2, p8 _ ⟨v1, v2, p9 _ ⟨fun _ v ev => nx S2 hi v ev, fun c => absurd rfl c⟩⟩⟩
  · intro _
    obtain ⟨r, S1, S2, p8, p9, hi⟩ := b_wins hI _
    exact ⟨v1, p8 _ ⟨v1, p9 _ ⟨fun _ v ev => nx S2 hi v ev, fun c => absurd rfl c⟩⟩⟩
  · intro _
    obtain ⟨r, S1, S2, p8, p9, hi⟩ := b_sum hI
    exact p8 _ (p9 _ ⟨fun _ v ev => nx S2 hi v ev, fun c => absurd rfl c⟩)
  · intro _
    obtain ⟨r, S1, S2, p8, p9, hi⟩ := b_proved hI
    exact p8 _ (p9 _ ⟨fun _ v ev => nx S2 hi v ev, fun c => absurd rfl c⟩)
  · intro _
    obtain ⟨r, S1, S2, p8, p9, hi⟩ := b_held hI _
    exact ⟨v1, p8 _ ⟨v1, p9 _ ⟨fun _ v ev => nx S2 hi v ev, fun c => absurd rfl c⟩⟩⟩
  · intro _
    obtain ⟨r, S1, S2, p8, p9, hi⟩ := Sim.both hI (fun a ha => s_again _ ha)
    exact ⟨v1, p8 _ ⟨v1, p9 _ ⟨fun _ v ev => nx S2 hi v ev, fun c => absurd rfl c⟩⟩⟩
  · intro _
    obtain ⟨r, S1, S2, p8, p9, hi⟩ := b_fee hI _
    exact ⟨v1, p8 _ ⟨v1, p9 _ ⟨fun _ v ev => nx S2 hi v ev, fun c => absurd rfl c⟩⟩⟩
  · intro _
    obtain ⟨r, S1, S2, p8, p9, hi⟩ := b_record hI _ _
    exact ⟨v1, v2, p8 _ ⟨v1, v2, p9 _ ⟨fun _ v ev => nx S2 hi v ev, fun c => absurd rfl c⟩⟩⟩
  · intro _
    obtain ⟨r, S1, S2, p8, p9, hi⟩ := b_chained hI
    exact p8 _ (p9 _ ⟨fun _ v ev => nx S2 hi v ev, fun c => absurd rfl c⟩)
  · intro _
    obtain ⟨r, S1, S2, p8, p9, hi⟩ := b_order hI _ _
    exact ⟨v1, v2, p8 _ ⟨v1, v2, p9 _ ⟨fun _ v ev => nx S2 hi v ev, fun c => absurd rfl c⟩⟩⟩
  · intro _
    obtain ⟨r, S1, S2, p8, p9, hi⟩ := b_back hI _
    exact ⟨v1, p8 _ ⟨v1, p9 _ ⟨fun _ v ev => nx S2 hi v ev, fun c => absurd rfl c⟩⟩⟩
  · intro _
    obtain ⟨r, S1, S2, p8, p9, hi⟩ := Sim.both hI (fun a ha => s_play _ _ ha)
    exact ⟨v1, v2, v3, p8 _ ⟨v1, v2, v3, p9 _ ⟨fun _ v ev => nx S2 hi v ev, fun c => absurd rfl c⟩⟩⟩
  · intro _
    obtain ⟨r, S1, S2, p8, p9, hi⟩ := b_tie hI _ _
    exact ⟨v1, v2, p8 _ ⟨v1, v2, p9 _ ⟨fun _ v ev => nx S2 hi v ev, fun c => absurd rfl c⟩⟩⟩
theorem law_runs {L : Nat} (hL : L ≤ 384) (xs : Nat → Int32) : ∀ d m S, Inv S → m ≤ L + 6 → L < m + 6 * (d + 1) → lp_L_law_18 L xs (d + 1) (nI m) S := by
  intro d
  induction d with
  | zero =>
    intro m S hI hm hd
    refine ⟨fun _ => trivial, fun c => absurd ?_ c⟩
    rw [Int32.lt_iff_toInt_lt, nI_toInt (by omega)]
    have : (Int32.ofNat L - (6 : Int32)).toInt = (L : Int) - 6 := by
      rw [Int32.toInt_sub, show (Int32.ofNat L).toInt = (L : Int) from nI_toInt (by omega), show (6 : Int32).toInt = 6 from rfl, Int.bmod_eq_of_le (by omega) (by omega)]
    rw [this]; omega
  | succ d ih =>
    intro m S hI hm hd
    by_cases q : m + 6 ≤ L
    · exact law_step hL xs q hI (fun S2 hi => ih (m + 6) S2 hi (by omega) (by omega))
    · refine ⟨fun _ => trivial, fun c => absurd ?_ c⟩
      rw [Int32.lt_iff_toInt_lt, nI_toInt (by omega)]
      have : (Int32.ofNat L - (6 : Int32)).toInt = (L : Int) - 6 := by
        rw [Int32.toInt_sub, show (Int32.ofNat L).toInt = (L : Int) from nI_toInt (by omega), show (6 : Int32).toInt = 6 from rfl, Int.bmod_eq_of_le (by omega) (by omega)]
      rw [this]; omega
theorem law_pure (A : Nat → Nat) (z L : Nat) (hL : L ≤ 384) (xs : Nat → Int32) : ∃ n, n ≤ 65 ∧ lp_L_law_18 L xs n 0 (S_init A z) :=
  ⟨64 + 1, by omega, law_runs hL xs 64 0 (S_init A z) (Inv_init A z) (by omega) (by omega)⟩
