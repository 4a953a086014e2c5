/-! ===== the reference tries all sets ===== -/
def orF (a : RS) (x : Int32) : Nat → Int64
  | 0 => 0
  | k + 1 => if bt x k = true then orF a x k ||| bidL a k else orF a x k
theorem orF_t {a : RS} {x : Int32} {k : Nat} (h : bt x k = true) : orF a x (k + 1) = orF a x k ||| bidL a k := by simp only [orF]; exact if_pos h
theorem orF_f {a : RS} {x : Int32} {k : Nat} (h : ¬ bt x k = true) : orF a x (k + 1) = orF a x k := by simp only [orF]; exact if_neg h
theorem orF_0 {a : RS} {x : Int32} {w : Int64} : ∀ n, w &&& orF a x n = 0 ↔ ∀ j, j < n → bt x j = true → w &&& bidL a j = 0 := by
  intro n
  induction n with
  | zero => exact ⟨fun _ j hj => absurd hj (by omega), fun _ => l_ext (fun i _ => by simp only [orF]; rw [l_and, l_0]; simp)⟩
  | succ n ih =>
    by_cases q : bt x n = true
    · rw [orF_t q, and_or0, ih]
      constructor
      · rintro ⟨z1, z2⟩ j hj bj
        by_cases e : j = n
        · subst e; exact z2
        · exact z1 j (by omega) bj
      · intro z
        exact ⟨fun j hj bj => z j (by omega) bj, z n (by omega) q⟩
    · rw [orF_f q, ih]
      constructor
      · intro z j hj bj
        by_cases e : j = n
        · subst e; exact absurd bj q
        · exact z j (by omega) bj
      · intro z j hj bj
        exact z j (by omega) bj
theorem sumB_t {C : Nat → Int} {P : Nat → Bool} {n : Nat} (h : P n = true) : sumB C P (n + 1) = sumB C P n + C n := by simp only [sumB]; rw [if_pos h]
theorem sumB_f {C : Nat → Int} {P : Nat → Bool} {n : Nat} (h : ¬ P n = true) : sumB C P (n + 1) = sumB C P n := by simp only [sumB]; rw [if_neg h]; omega
theorem i64_pos {x : Int64} : x ≤ (0 : Int64) ↔ x.toInt ≤ 0 := by rw [j_le]; exact Iff.rfl
theorem r_sumOf {S : St} (hk : Ok (pr S)) {x : Int32} {post : Int64 → St → Prop} (h1 : ∀ t : Int64, t.toInt = sS (pr S) x → Feas (pr S) x → post t S) (h0 : ¬ Feas (pr S) x → post (-1) S) : wp_X9_sumOf x S post := by
  have hn := hk.1.2.2.2.2.2.1
  have hB := hk.1.2.2.2.1
  have g23 : gi S 8 0 23 = nI (aD (pr S)) := (gi_pr rfl).trans hk.1.2.2.2.2.1
  have g12 : gi S 8 0 12 = nI (aB (pr S)) := (gi_pr rfl).trans hk.1.2.2.1
  have hC := bidC_b hk.2.2.2.2.2.2.1
  have hU := bidU_b hk.2.2.2.2.2.2.1
  have e33 : ∀ k, gj S 33 0 k = bidL (pr S) k := fun k => gj_pr rfl
  have e32 : ∀ k, gj S 32 0 k = qj (pr S) 32 k := fun k => gj_pr rfl
  have e31 : ∀ k, gi S 31 0 k = qi (pr S) 31 k := fun k => gi_pr rfl
  -- the sum of one buyer
  have inner : ∀ b, b < aB (pr S) → ∀ K : Int32 → St → Prop, (byB (pr S) b x ≤ (freeV (pr S) b).toInt → K (nI (b + 1)) S) → (¬ byB (pr S) b x ≤ (freeV (pr S) b).toInt → post (-1) S) → ∀ d k, k + d = aD (pr S) → ∀ v : Int64, v.toInt = sumB (bidU (pr S) b) (bt x) k → lp_X9_sumOf_91 x (nI b) K post (d + 1) (nI k) v S := by
    intro b hb K f1 f0 d
    induction d with
    | zero =>
      intro k hkd v hv
      have hkd : k = aD (pr S) := by omega
      subst hkd
      have hv : v.toInt = byB (pr S) b x := hv
      have hf := freeV_nn hk hb
      refine ⟨fun _ => ⟨fun c w ew => ?_, fun c => r_free hk.1 hk.2.1 hb ⟨fun c2 w ew => ?_, fun c2 => f0 (fun z => c2 (j_le.mpr (by show v.toInt ≤ (freeV (pr S) b).toInt; omega)))⟩⟩, fun c => absurd (by rw [g23]; exact Int32.le_refl _) c⟩
      · rw [ew, nI_1]; exact f1 (by rw [i64_pos, hv] at c; omega)
      · rw [ew, nI_1]; exact f1 (by rw [← hv]; exact j_le.mp c2)
    | succ d ih =>
      intro k hkd v hv
      have hlt : k < aD (pr S) := by omega
      have ink : vp_in (nI k) 18 := vp_in_nI (by omega) (by omega)
      have hu := hU b k
      have sl := sumB_le (C := bidU (pr S) b) (P := bt x) (n := k) (fun j _ => hU b j)
      have sn := sumB_nn (C := bidU (pr S) b) (P := bt x) (n := k) (fun j _ => (hU b j).1)
      refine ⟨fun c => absurd (g23 ▸ c) (nI_ge hlt (by omega)), fun _ => ?_⟩
      rw [bit_s (by omega), nI_clamp (by omega), e31, e32]
      have keep : ∀ w : Int64, w = v + 0 → w.toInt = v.toInt := fun w ew => by rw [ew]; congr 1; grind
      by_cases q : bt x k = true
      · rw [if_pos q]
        refine ⟨fun c => absurd rfl c, fun _ => ⟨ink, fun c w ew y ey => ?_, fun c => ⟨ink, fun w ew y ey => ?_⟩⟩⟩
        · rw [ey, nI_1]
          refine ih (k + 1) (by omega) w ?_
          rw [keep w ew, hv, sumB_t q, show bidU (pr S) b k = 0 from if_neg c]; omega
        · have eu : bidU (pr S) b k = (qj (pr S) 32 k).toInt := (if_pos c).trans (if_pos hlt)
          rw [ey, nI_1]
          refine ih (k + 1) (by omega) w ?_
          rw [ew, j_add (by omega) (by omega), hv, sumB_t q, eu]
      · rw [if_neg q]
        refine ⟨fun _ w ew y ey => ?_, fun c => absurd c (by decide)⟩
        rw [ey, nI_1]
        refine ih (k + 1) (by omega) w ?_
        rw [keep w ew, hv, sumB_f q]
  -- all buyers
  have outer : (∀ j k, j < aD (pr S) → k < aD (pr S) → j ≠ k → bt x j = true → bt x k = true → bidL (pr S) j &&& bidL (pr S) k = 0) → ∀ t : Int64, t.toInt = sS (pr S) x → ∀ d b, b + d = aB (pr S) → (∀ c, c < b → byB (pr S) c x ≤ (freeV (pr S) c).toInt) → lp_X9_sumOf_76 x t post (d + 1) (nI b) S := by
    intro hd t ht d
    induction d with
    | zero =>
      intro b hb hf
      have hb : b = aB (pr S) := by omega
      subst hb
      exact ⟨fun _ => h1 t ht ⟨hd, hf⟩, fun c => absurd (by rw [g12]; exact Int32.le_refl _) c⟩
    | succ d ih =>
      intro b hb hf
      have hlt : b < aB (pr S) := by omega
      refine ⟨fun c => absurd (g12 ▸ c) (nI_ge hlt (by omega)), fun _ => ⟨aD (pr S) + 1, inner b hlt _ (fun z => ?_) (fun z => h0 (fun y => z (y.2 b hlt))) (aD (pr S)) 0 (by omega) 0 rfl⟩⟩
      exact ih (b + 1) (by omega) (fun c hc => by
        by_cases e : c = b
        · subst e; exact z
        · exact hf c (by omega))
  refine ⟨aD (pr S) + 1, ?_⟩
  have key : ∀ d k, k + d = aD (pr S) → (∀ i j, i < j → j < k → bt x i = true → bt x j = true → bidL (pr S) j &&& bidL (pr S) i = 0) → ∀ t : Int64, t.toInt = sumB (bidC (pr S)) (bt x) k → lp_X9_sumOf_8 x post (d + 1) (nI k) t (orF (pr S) x k) S := by
    intro d
    induction d with
    | zero =>
      intro k hkd hd t ht
      have hkd : k = aD (pr S) := by omega
      subst hkd
      refine ⟨fun _ => ⟨aB (pr S) + 1, outer (fun i j hi hj hne bi bj => ?_) t ht (aB (pr S)) 0 (by omega) (fun c hc => absurd hc (by omega))⟩, fun c => absurd (by rw [g23]; exact Int32.le_refl _) c⟩
      rcases Nat.lt_or_ge i j with z | z
      · rw [and_sym]; exact hd i j z hj bi bj
      · exact hd j i (by omega) hi bj bi
    | succ d ih =>
      intro k hkd hd t ht
      have hlt : k < aD (pr S) := by omega
      have ink : vp_in (nI k) 18 := vp_in_nI (by omega) (by omega)
      have hc := hC k
      have sl := sumB_le (C := bidC (pr S)) (P := bt x) (n := k) (fun j _ => hC j)
      have sn := sumB_nn (C := bidC (pr S)) (P := bt x) (n := k) (fun j _ => (hC j).1)
      have ec : bidC (pr S) k = (qj (pr S) 32 k).toInt := if_pos hlt
      refine ⟨fun c => absurd (g23 ▸ c) (nI_ge hlt (by omega)), fun _ => ?_⟩
      rw [bit_s (by omega), nI_clamp (by omega), e33, e32]
      by_cases q : bt x k = true
      · rw [if_pos q]
        refine ⟨fun c => absurd rfl c, fun _ => ⟨ink, fun c => ⟨ink, fun v19 e19 => ⟨ink, fun v21 e21 y ey => ?_⟩⟩, fun c => h0 (fun z => c ?_)⟩⟩
        · rw [ey, nI_1, e19, ← orF_t q]
          refine ih (k + 1) (by omega) (fun i j hij hj bi bj => ?_) v21 ?_
          · by_cases e : j = k
            · subst e
              exact (orF_0 j).mp (by rw [and_sym]; exact c) i hij bi
            · exact hd i j hij (by omega) bi bj
          · rw [e21, j_add (by omega) (by omega), ht, sumB_t q, ec]
        · rw [and_sym, orF_0]
          exact fun j hj bj => z.1 k j hlt (by omega) (by omega) q bj
      · rw [if_neg q]
        refine ⟨fun _ y ey => ?_, fun c => absurd c (by decide)⟩
        rw [ey, nI_1, ← orF_f (a := pr S) q]
        refine ih (k + 1) (by omega) (fun i j hij hj bi bj => ?_) t ?_
        · by_cases e : j = k
          · subst e; exact absurd bj q
          · exact hd i j hij (by omega) bi bj
        · rw [ht, sumB_f q]
  exact key (aD (pr S)) 0 (by omega) (fun i j _ hj => absurd hj (by omega)) 0 rfl
theorem shl_pow : ∀ n, n < 19 → ((1 : Int32) <<< (nI n &&& 31)) = nI (2 ^ n) := by decide +kernel
theorem pow_19 {n : Nat} (h : n ≤ 18) : 2 ^ n ≤ 262144 := Nat.pow_le_pow_right (n := 2) (by decide) h
def gset (a : RS) (y : Int32) : Prop := ∀ k, bt y k = true → k < aD a ∧ goodK a k
theorem and_not {x y : Int32} : x &&& (y ^^^ (-1)) = 0 ↔ ∀ k, bt x k = true → bt y k = true := by
  constructor
  · intro h k hk
    by_cases q : k < 32
    · have := congrArg (fun w => bt w k) h
      simp only [b_and, b_xor, b_0, b_m1 k q] at this
      rw [hk] at this
      cases z : bt y k with
      | true => rfl
      | false => rw [z] at this; simp at this
    · rw [b_big (by omega)] at hk; cases hk
  · intro h
    refine b_ext (fun k hk => ?_)
    rw [b_and, b_xor, b_m1 k hk, b_0]
    cases z : bt x k with
    | false => rfl
    | true => rw [h k z]; rfl
theorem r_setsLoop {S : St} (hk : Ok (pr S)) : ∃ most best, most.toInt = sS (pr S) best ∧ Win (pr S) best ∧ ∀ post : Int32 → St → Prop, (∃ n, lp_X9_sets_180 most best post n 0 S) → ∃ n, lp_X9_sets_30 post n 0 0 S := by
  have hn := hk.1.2.2.2.2.2.1
  have hp := pow_19 hn
  have hp0 : 0 < 2 ^ aD (pr S) := Nat.pow_pos (by decide)
  have g23 : gi S 8 0 23 = nI (aD (pr S)) := (gi_pr rfl).trans hk.1.2.2.2.2.1
  have hC := bidC_b hk.2.2.2.2.2.2.1
  have hg : ∀ x : Int32, x &&& ((mkM (goodK (pr S)) (aD (pr S))) ^^^ (-1)) = 0 ↔ gset (pr S) x := by
    intro x
    rw [and_not]
    constructor
    · intro h k q
      have k32 : k < 32 := by
        rcases Nat.lt_or_ge k 32 with z | z
        · exact z
        · rw [b_big z] at q; cases q
      exact (mkM_b (by omega) k32).mp (h k q)
    · intro h k q
      have := h k q
      exact (mkM_b (by omega) (by omega)).mpr this
  have main : ∀ d m, m + d = 2 ^ aD (pr S) → ∀ (most : Int64) (best : Int32), most.toInt = sS (pr S) best → gset (pr S) best → Feas (pr S) best → (∀ m2, m2 < m → gset (pr S) (nI m2) → Feas (pr S) (nI m2) → kle (pr S) (nI m2) best) → ∃ most2 best2, most2.toInt = sS (pr S) best2 ∧ Win (pr S) best2 ∧ ∀ post : Int32 → St → Prop, (∃ n, lp_X9_sets_180 most2 best2 post n 0 S) → lp_X9_sets_74 (mkM (goodK (pr S)) (aD (pr S))) post (d + 1) (nI m) most best S := by
    intro d
    induction d with
    | zero =>
      intro m hm most best h1 h2 h3 h4
      have hm : m = 2 ^ aD (pr S) := by omega
      subst hm
      refine ⟨most, best, h1, ⟨h2, h3, fun y hy hf => ?_⟩, fun post hq => ⟨fun _ => hq, fun c => absurd ?_ c⟩⟩
      · obtain ⟨m2, hm2, rfl⟩ := mask_nI (n := aD (pr S)) (x := y) (by omega) (fun i hi _ => by
          cases q : bt y i with
          | true => have := (hy i q).1; omega
          | false => rfl)
        exact h4 m2 hm2 hy hf
      · rw [g23, shl_pow _ (by omega)]; exact Int32.le_refl _
    | succ d ih =>
      intro m hm most best h1 h2 h3 h4
      have hlt : m < 2 ^ aD (pr S) := by omega
      have hb18 : ∀ k, bt best k = true → k < 18 := fun k q => by have := (h2 k q).1; omega
      have start : ¬ ((1 : Int32) <<< ((gi S 8 0 23) &&& 31)) ≤ nI m := by
        rw [g23, shl_pow _ (by omega)]
        exact nI_ge hlt (by omega)
      have nomo : 0 ≤ most.toInt := by rw [h1]; exact sumB_nn (fun k _ => (hC k).1)
      -- it stays
      have stay : (gset (pr S) (nI m) → Feas (pr S) (nI m) → kle (pr S) (nI m) best) → ∃ most2 best2, most2.toInt = sS (pr S) best2 ∧ Win (pr S) best2 ∧ ∀ post : Int32 → St → Prop, (∃ n, lp_X9_sets_180 most2 best2 post n 0 S) → ∀ v : Int32, v = nI m + 1 → lp_X9_sets_74 (mkM (goodK (pr S)) (aD (pr S))) post (d + 1) v most best S := by
        intro hst
        obtain ⟨m2, b2, r1, r2, w⟩ := ih (m + 1) (by omega) most best h1 h2 h3 (fun y hy => by
          by_cases e : y = m
          · subst e; exact hst
          · exact h4 y (by omega))
        exact ⟨m2, b2, r1, r2, fun post hq v ev => by rw [ev, nI_1]; exact w post hq⟩
      by_cases hgs : gset (pr S) (nI m)
      · by_cases hf : Feas (pr S) (nI m)
        · obtain ⟨t, ht⟩ : ∃ t : Int64, t.toInt = sS (pr S) (nI m) := by
            have sl := sumB_le (C := bidC (pr S)) (P := bt (nI m)) (n := aD (pr S)) (fun j _ => hC j)
            have sn := sumB_nn (C := bidC (pr S)) (P := bt (nI m)) (n := aD (pr S)) (fun j _ => (hC j).1)
            exact ⟨Int64.ofInt (sS (pr S) (nI m)), by rw [Int64.toInt_ofInt, show Int64.size = 18446744073709551616 from rfl]; exact Int.bmod_eq_of_le (by unfold sS; omega) (by unfold sS; omega)⟩
          have hz1 : zS (nI m) ≤ 18 := szB_le (bt (nI m)) 18
          have hz2 : zS best ≤ 18 := szB_le (bt best) 18
          have hm18 : ∀ k, bt (nI m) k = true → k < 18 := fun k q => by have := (hgs k q).1; omega
          have tne : ¬ t = (-1 : Int64) := fun z => by
            have sn := sumB_nn (C := bidC (pr S)) (P := bt (nI m)) (n := aD (pr S)) (fun j _ => (hC j).1)
            have := congrArg Int64.toInt z
            rw [ht, show (-1 : Int64).toInt = -1 from rfl] at this
            unfold sS at this; omega
          -- it is taken
          have take : kle (pr S) best (nI m) → ∃ most2 best2, most2.toInt = sS (pr S) best2 ∧ Win (pr S) best2 ∧ ∀ post : Int32 → St → Prop, (∃ n, lp_X9_sets_180 most2 best2 post n 0 S) → ∀ v : Int32, v = nI m + 1 → lp_X9_sets_74 (mkM (goodK (pr S)) (aD (pr S))) post (d + 1) v t (nI m) S := by
            intro hst
            obtain ⟨m2, b2, r1, r2, w⟩ := ih (m + 1) (by omega) t (nI m) ht hgs hf (fun y hy hyg hyf => by
              by_cases e : y = m
              · subst e; exact kle_r
              · exact kle_t (h4 y (by omega) hyg hyf) hst)
            exact ⟨m2, b2, r1, r2, fun post hq v ev => by rw [ev, nI_1]; exact w post hq⟩
          have walk : ∀ post : Int32 → St → Prop, ((most < t → ∀ v : Int32, v = nI m + 1 → lp_X9_sets_74 (mkM (goodK (pr S)) (aD (pr S))) post (d + 1) v t (nI m) S) ∧ (¬ most < t → ¬ t = most → ∀ v : Int32, v = nI m + 1 → lp_X9_sets_74 (mkM (goodK (pr S)) (aD (pr S))) post (d + 1) v most best S) ∧ (t = most → zS (nI m) < zS best → ∀ v : Int32, v = nI m + 1 → lp_X9_sets_74 (mkM (goodK (pr S)) (aD (pr S))) post (d + 1) v t (nI m) S) ∧ (t = most → ¬ zS (nI m) < zS best → ¬ zS (nI m) = zS best → ∀ v : Int32, v = nI m + 1 → lp_X9_sets_74 (mkM (goodK (pr S)) (aD (pr S))) post (d + 1) v most best S) ∧ (t = most → zS (nI m) = zS best → wp_X9_isFirst (nI m) best S (fun r45 S44 => (r45 = 0 → ∀ v : Int32, v = nI m + 1 → lp_X9_sets_74 (mkM (goodK (pr S)) (aD (pr S))) post (d + 1) v most best S44) ∧ (¬ r45 = 0 → ∀ v : Int32, v = nI m + 1 → lp_X9_sets_74 (mkM (goodK (pr S)) (aD (pr S))) post (d + 1) v t (nI m) S44)))) → lp_X9_sets_74 (mkM (goodK (pr S)) (aD (pr S))) post (d + 1 + 1) (nI m) most best S := by
            rintro post ⟨w1, w2, w3, w4, w5⟩
            refine ⟨fun c => absurd c start, fun _ => ⟨fun c => absurd ((hg _).mpr hgs) c, fun _ => ?_⟩⟩
            refine r_sumOf hk (fun t2 ht2 _ => ?_) (fun c => absurd hf c)
            have : t2 = t := j_inj.mp (ht2.trans ht.symm)
            subst this
            refine ⟨w1, fun c => ⟨w2 c, fun c2 => ⟨fun c3 => absurd c3 tne, fun _ => r_size (r_size ⟨fun c3 => w3 c2 ?_, fun c3 => r_size (r_size ⟨fun c4 => w4 c2 ?_ ?_, fun c4 => w5 c2 ?_⟩)⟩)⟩⟩⟩
            · exact (nI_ltI (by omega) (by omega)).mp c3
            · exact fun z => c3 ((nI_ltI (a := zS (nI m)) (b := zS best) (by omega) (by omega)).mpr z)
            · exact fun z => c4 (by unfold zS at z; rw [z])
            · exact (nI_eq (by omega) (by omega)).mp c4
          by_cases c1 : most < t
          · have z1 := j_lt.mp c1
            obtain ⟨m2, b2, r1, r2, w⟩ := take (by unfold kle; omega)
            exact ⟨m2, b2, r1, r2, fun post hq => walk post ⟨fun _ => w post hq, fun c => absurd c1 c, fun c => absurd c1 (by rw [c]; exact fun z => Int64.lt_irrefl z), fun c => absurd c1 (by rw [c]; exact fun z => Int64.lt_irrefl z), fun c => absurd c1 (by rw [c]; exact fun z => Int64.lt_irrefl z)⟩⟩
          · have n1 : ¬ most.toInt < t.toInt := fun z => c1 (j_lt.mpr z)
            by_cases c2 : t = most
            · have e2 := congrArg Int64.toInt c2
              by_cases c3 : zS (nI m) < zS best
              · obtain ⟨m2, b2, r1, r2, w⟩ := take (by unfold kle; omega)
                exact ⟨m2, b2, r1, r2, fun post hq => walk post ⟨fun c => absurd c c1, fun _ c => absurd c2 c, fun _ _ => w post hq, fun _ c => absurd c3 c, fun _ c => absurd c3 (by omega)⟩⟩
              · by_cases c4 : zS (nI m) = zS best
                · by_cases c5 : lS best ≤ lS (nI m) ∧ nI m ≠ best
                  · obtain ⟨m2, b2, r1, r2, w⟩ := take (by unfold kle; omega)
                    refine ⟨m2, b2, r1, r2, fun post hq => walk post ⟨fun c => absurd c c1, fun _ c => absurd c2 c, fun _ c => absurd c c3, fun _ _ c => absurd c4 c, fun _ _ => ?_⟩⟩
                    refine r_isFirst (fun e => absurd e c5.2) (fun j hj hd hl => ⟨fun _ => ⟨fun c => absurd c (by decide), fun _ => w post hq⟩, fun q => ?_⟩)
                    have q2 : bt best j = true := by cases z : bt best j with
                      | true => rfl
                      | false => exact absurd (q.trans z.symm) hd
                    have := lex_lt (P := bt best) (Q := bt (nI m)) (hb18 j q2) (fun k hkk => (hl k hkk).symm) q2 q
                    exact absurd c5.1 (by unfold lS; omega)
                  · have hle : kle (pr S) (nI m) best := by
                      by_cases e : nI m = best
                      · rw [e]; exact kle_r
                      · have : ¬ lS best ≤ lS (nI m) := fun z => c5 ⟨z, e⟩
                        unfold kle; omega
                    obtain ⟨m2, b2, r1, r2, w⟩ := stay (fun _ _ => hle)
                    refine ⟨m2, b2, r1, r2, fun post hq => walk post ⟨fun c => absurd c c1, fun _ c => absurd c2 c, fun _ c => absurd c c3, fun _ _ c => absurd c4 c, fun _ _ => ?_⟩⟩
                    refine r_isFirst (fun _ => ⟨fun _ => w post hq, fun c => absurd rfl c⟩) (fun j hj hd hl => ⟨fun q => ?_, fun _ => ⟨fun _ => w post hq, fun c => absurd rfl c⟩⟩)
                    have q2 : bt best j = false := by cases z : bt best j with
                      | true => exact absurd (q.trans z.symm) hd
                      | false => rfl
                    have := lex_lt (P := bt (nI m)) (Q := bt best) (hm18 j q) hl q q2
                    exact absurd ⟨(by unfold lS; omega), fun e => hd (by rw [e])⟩ c5
                · obtain ⟨m2, b2, r1, r2, w⟩ := stay (fun _ _ => by unfold kle; omega)
                  exact ⟨m2, b2, r1, r2, fun post hq => walk post ⟨fun c => absurd c c1, fun _ c => absurd c2 c, fun _ c => absurd c c3, fun _ _ _ => w post hq, fun _ c => absurd c c4⟩⟩
            · have n2 : t.toInt ≠ most.toInt := fun z => c2 (j_inj.mp z)
              obtain ⟨m2, b2, r1, r2, w⟩ := stay (fun _ _ => by unfold kle; omega)
              exact ⟨m2, b2, r1, r2, fun post hq => walk post ⟨fun c => absurd c c1, fun _ _ => w post hq, fun c => absurd c c2, fun c => absurd c c2, fun c => absurd c c2⟩⟩
        · obtain ⟨m2, b2, r1, r2, w⟩ := stay (fun _ z => absurd z hf)
          refine ⟨m2, b2, r1, r2, fun post hq => ⟨fun c => absurd c start, fun _ => ⟨fun c => absurd ((hg _).mpr hgs) c, fun _ => ?_⟩⟩⟩
          refine r_sumOf hk (fun _ _ z => absurd z hf) (fun _ => ?_)
          have nm : ¬ most < (-1 : Int64) := fun z => by
            have := j_lt.mp z
            rw [show (-1 : Int64).toInt = -1 from rfl] at this; omega
          have ne : ¬ (-1 : Int64) = most := fun z => by
            have := congrArg Int64.toInt z
            rw [show (-1 : Int64).toInt = -1 from rfl] at this; omega
          exact ⟨fun c => absurd c nm, fun _ => ⟨fun _ => w post hq, fun c => absurd c ne⟩⟩
      · obtain ⟨m2, b2, r1, r2, w⟩ := stay (fun z => absurd z hgs)
        exact ⟨m2, b2, r1, r2, fun post hq => ⟨fun c => absurd c start, fun _ => ⟨fun _ => w post hq, fun c => absurd ((hg _).mp c) hgs⟩⟩⟩
  obtain ⟨most, best, r1, r2, w⟩ := main (2 ^ aD (pr S) - 1) 1 (by omega) 0 0 sumB_0.symm (fun k q => (by rw [b_0] at q; cases q)) (Feas_0 hk) (fun m2 hm2 _ _ => by
    have : m2 = 0 := by omega
    subst this
    exact kle_r)
  refine ⟨most, best, r1, r2, fun post hq => ⟨aD (pr S) + 1, ?_⟩⟩
  have key : ∀ d k, k + d = aD (pr S) → lp_X9_sets_30 post (d + 1) (nI k) (mkM (goodK (pr S)) k) S := by
    intro d
    induction d with
    | zero =>
      intro k hkd
      have hkd : k = aD (pr S) := by omega
      subst hkd
      exact ⟨fun _ => ⟨2 ^ aD (pr S) - 1 + 1, w post hq⟩, fun c => absurd (by rw [g23]; exact Int32.le_refl _) c⟩
    | succ d ih =>
      intro k hkd
      have hlt : k < aD (pr S) := by omega
      have nx := ih (k + 1) (by omega)
      refine ⟨fun c => absurd (g23 ▸ c) (nI_ge hlt (by omega)), fun _ => r_isGood hk.1 hk.2.1 hlt (fun q => ⟨fun c => absurd c (by decide), fun _ v ev y ey => ?_⟩) (fun q => ⟨fun _ y ey => ?_, fun c => absurd rfl c⟩)⟩
      · rw [mkM_t q] at nx
        rw [ey, nI_1, ev]; exact nx
      · rw [mkM_f q] at nx
        rw [ey, nI_1]; exact nx
  exact key (aD (pr S)) 0 (by omega)
