/-! ===== the class's search: sums of the rest, and its whole ===== -/
def rI (a : RS) : List Nat → Int64
  | [] => 0
  | g :: s => rI a s + qj a 32 g
def sR (V : St) (f : Nat → Int64) : St := (V.1, (fun k j x => if k = 15 ∧ j = 0 then f x else V.2.1 k j x), V.2.2)
theorem sR_sj (V : St) (f : Nat → Int64) (b : Nat) (v : Int64) : sj (sR V f) 15 0 b v = sR V (fun j => if j = b then v else f j) := by
  refine Prod.ext rfl (Prod.ext ?_ rfl)
  funext k j x
  show (if k = 15 ∧ j = 0 ∧ x = b then v else if k = 15 ∧ j = 0 then f x else V.2.1 k j x) = if k = 15 ∧ j = 0 then (if x = b then v else f x) else V.2.1 k j x
  by_cases h1 : k = 15 ∧ j = 0
  · by_cases h2 : x = b
    · rw [if_pos ⟨h1.1, h1.2, h2⟩, if_pos h1, if_pos h2]
    · rw [if_neg (fun q => h2 q.2.2), if_pos h1, if_pos h1, if_neg h2]
  · rw [if_neg (fun q => h1 ⟨q.1, q.2.1⟩), if_neg h1, if_neg h1]
theorem sR_id (V : St) : sR V (fun x => gj V 15 0 x) = V := by
  refine Prod.ext rfl (Prod.ext ?_ rfl)
  funext k j x
  show (if k = 15 ∧ j = 0 then V.2.1 15 0 x else V.2.1 k j x) = V.2.1 k j x
  split
  · rename_i q; rw [q.1, q.2]
  · rfl
theorem SX.R {S T : St} {f : Nat → Int64} (h : SX S T) : SX S (sR T f) := h.trans ⟨fun k j x c1 c2 c3 c4 => ⟨rfl, if_neg (fun q => c3 q.1), rfl⟩, fun _ => rfl⟩
theorem nI_dec (m : Nat) : nI (m + 1) + (-1) = nI m := by rw [← nI_1]; grind
theorem c_rests {V : St} {a : RS} {ob : Nat} {l : List Nat} (hl : l.length ≤ 18) (h3 : gi V 6 0 3 = nI l.length) (h14 : ∀ i g, l[i]? = some g → gr V 14 0 i = some (ob + g)) (hb : ∀ g, g ∈ l → gj V 0 (ob + g) 2 = qj a 32 g) : ∀ i, i ≤ 18 → ∀ f : Nat → Int64, (∀ j, i < j → j ≤ 18 → f j = rI a (l.drop j)) → ∃ f2 : Nat → Int64, (∀ j, j ≤ 18 → f2 j = rI a (l.drop j)) ∧ ∀ post : St → Prop, post (sR V f2) → lp_X6_addUpRests_8 post (i + 2) (nI i) (rI a (l.drop (i + 1))) (sR V f) := by
  intro i
  induction i with
  | zero =>
    intro _ f hf
    have in19 : vp_in (nI 0) 19 := vp_in_nI (by omega) (by omega)
    refine ⟨fun j => if j = 0 then rI a (l.drop 0) else f j, fun j hj => ?_, fun post hp => ⟨fun c => absurd c (nI_pos (by omega)), fun _ => ?_⟩⟩
    · by_cases e : j = 0
      · subst e; exact if_pos rfl
      · exact (if_neg e).trans (hf j (by omega) hj)
    · have last : ∀ v : Int64, v = rI a (l.drop 0) → ∀ T : St, T = sj (sR V f) 15 0 (nI 0).toNatClampNeg v → ∀ w : Int32, w = nI 0 + (-1) → lp_X6_addUpRests_8 post 1 w v T := by
        intro v ev T eT w ew
        rw [nI_clamp (by omega), sR_sj, ev] at eT
        rw [eT, ew]
        exact ⟨fun _ => hp, fun c => absurd (by decide) c⟩
      have n19 : ¬ (19 : Int32) ≤ nI 0 := nI_ge (b := 19) (by omega) (by omega)
      show (gi V 6 0 3 ≤ nI 0 → _) ∧ (¬ gi V 6 0 3 ≤ nI 0 → _)
      rw [h3]
      cases l with
      | nil =>
        exact ⟨fun _ => ⟨fun c => absurd c n19, fun _ => ⟨in19, last _ rfl⟩⟩, fun c => absurd (Int32.le_refl _) c⟩
      | cons g l2 =>
        refine ⟨fun c => absurd c (nI_ge (by simp) (by omega)), fun _ => ⟨fun c => absurd c (nI_ge (b := 18) (by omega) (by omega)), fun _ => ⟨vp_in_nI (by omega) (by omega), ?_⟩⟩⟩
        rw [show gr (sR V f) 14 0 (nI 0).toNatClampNeg = some (ob + g) from h14 0 g rfl]
        refine ⟨fun c => (by cases c), fun j ej => ⟨vp_in_nI (by omega) (by omega), fun c => (by cases c), fun j2 e2 v ev => ⟨fun c => absurd c n19, fun _ => ⟨in19, last v ?_⟩⟩⟩⟩
        cases e2
        rw [ev]
        show rI a (l2.drop 0) + gj V 0 (ob + g) 2 = _
        rw [hb g (by simp)]
        rfl
  | succ i ih =>
    intro hi f hf
    have in19 : vp_in (nI (i + 1)) 19 := vp_in_nI (by omega) (by omega)
    obtain ⟨f2, q2, w⟩ := ih (by omega) (fun j => if j = i + 1 then rI a (l.drop (i + 1)) else f j) (fun j hj hj2 => by
      by_cases e : j = i + 1
      · subst e; exact if_pos rfl
      · exact (if_neg e).trans (hf j (by omega) hj2))
    refine ⟨f2, q2, fun post hp => ⟨fun c => absurd c (nI_pos (by omega)), fun _ => ?_⟩⟩
    have last : ∀ v : Int64, v = rI a (l.drop (i + 1)) → ∀ T : St, T = sj (sR V f) 15 0 (nI (i + 1)).toNatClampNeg v → ∀ x : Int32, x = nI (i + 1) + (-1) → lp_X6_addUpRests_8 post (i + 2) x v T := by
      intro v ev T eT x ex
      rw [nI_clamp (by omega), sR_sj, ev] at eT
      rw [eT, ex, nI_dec, ev]
      exact w post hp
    have n19 : ¬ (19 : Int32) ≤ nI (i + 1) := nI_ge (b := 19) (by omega) (by omega)
    show (gi V 6 0 3 ≤ nI (i + 1) → _) ∧ (¬ gi V 6 0 3 ≤ nI (i + 1) → _)
    rw [h3]
    rcases Nat.lt_or_ge (i + 1) l.length with z | z
    · refine ⟨fun c => absurd c (nI_ge z (by omega)), fun _ => ⟨fun c => absurd c (nI_ge (b := 18) (by omega) (by omega)), fun _ => ⟨vp_in_nI (by omega) (by omega), ?_⟩⟩⟩
      have ed : l.drop (i + 1) = l[i + 1] :: l.drop (i + 1 + 1) := List.drop_eq_getElem_cons z
      rw [show gr (sR V f) 14 0 (nI (i + 1)).toNatClampNeg = some (ob + l[i + 1]) by
        rw [nI_clamp (by omega)]; exact h14 (i + 1) _ (List.getElem?_eq_getElem z)]
      refine ⟨fun c => (by cases c), fun j ej => ⟨vp_in_nI (by omega) (by omega), fun c => (by cases c), fun j2 e2 v ev => ⟨fun c => absurd c n19, fun _ => ⟨in19, last v ?_⟩⟩⟩⟩
      cases e2
      rw [ev, ed]
      show rI a (l.drop (i + 1 + 1)) + gj V 0 (ob + l[i + 1]) 2 = _
      rw [hb _ (List.getElem_mem z)]
      rfl
    · have e1 : l.drop (i + 1) = [] := List.drop_eq_nil_of_le z
      have e2 : l.drop (i + 1 + 1) = [] := List.drop_eq_nil_of_le (by omega)
      rw [e2]
      rw [e1] at last
      refine ⟨fun _ => ⟨fun c => absurd c n19, fun _ => ⟨in19, last _ rfl⟩⟩, fun c => absurd ?_ c⟩
      rw [Int32.le_iff_toInt_le, nI_toInt (by omega), nI_toInt (by omega)]
      omega
theorem rI_Z {a : RS} (h : OkD a) : ∀ l : List Nat, l.length ≤ 18 → (∀ k, k ∈ l → k < aD a) → (rI a l).toInt = rsum (bidC a) l := by
  intro l
  induction l with
  | nil => intro _ _; rfl
  | cons g l ih =>
    intro hl hm
    have hl2 : l.length + 1 ≤ 18 := hl
    have i := ih (by omega) (fun k hk => hm k (by simp [hk]))
    have b := rsum_bd (C := bidC a) l (fun k _ => bidC_b h k)
    have c := bidC_b h g
    have e : bidC a g = (qj a 32 g).toInt := if_pos (hm g (by simp))
    show (rI a l + qj a 32 g).toInt = bidC a g + rsum (bidC a) l
    rw [j_add (by rw [i, ← e]; omega) (by rw [i, ← e]; omega), i, e]; omega
def Win (a : RS) (X : Int32) : Prop := (∀ k, bt X k = true → k < aD a ∧ goodK a k) ∧ Feas a X ∧ ∀ y, (∀ k, bt y k = true → k < aD a ∧ goodK a k) → Feas a y → kle a y X
theorem Win.u {a : RS} (h18 : aD a ≤ 18) {X Y : Int32} (h1 : Win a X) (h2 : Win a Y) : X = Y :=
  kle_u (fun k q => by have := (h1.1 k q).1; omega) (fun k q => by have := (h2.1 k q).1; omega) (h2.2.2 X h1.1 h1.2.1) (h1.2.2 Y h2.1 h2.2.1)
theorem freeV_nn {a : RS} (h : Ok a) {b : Nat} (hb : b < aB a) : 0 ≤ (freeV a b).toInt := by
  have := free_Z h hb
  have := h.2.2.2.2.1 b hb
  unfold freeV; omega
theorem sumB_0 {C : Nat → Int} {n : Nat} : sumB C (bt 0) n = 0 := by
  induction n with
  | zero => rfl
  | succ n ih => simp only [sumB]; rw [ih, b_0]; rfl
theorem Feas_0 {a : RS} (h : Ok a) : Feas a 0 := ⟨fun j k _ _ _ q => (by rw [b_0] at q; cases q), fun b hb => by unfold byB; rw [sumB_0]; exact freeV_nn h hb⟩
theorem c_findWinners {S : St} {a : RS} {ob : Nat} (h : CR S a ob) (hk : Ok a) : ∃ ss cc T, SX S T ∧ gi T 6 0 4 = cc ∧ gj T 6 0 5 = ss ∧ ss.toInt = sS a cc ∧ Win a cc ∧ ∀ post : St → Prop, post T → wp_X8_findWinners S post := by
  have hn := hk.1.2.2.2.2.2.1
  obtain ⟨pf2, hpf, w1⟩ := c_purses h hk (pf0 := fun _ => 0) (aB a) 0 (by omega) (fun b => gj S 16 0 b) (fun b hb => absurd hb (by omega))
  have hU : gdI a ob S (sB (si S 6 0 3 0) 0 0 pf2) 0 := ⟨SX.b (SX.i SX.rf), rfl, fun i g q => by simp [gl] at q, rfl, rfl, fun b hb => hpf b hb⟩
  obtain ⟨V, hV, w2⟩ := c_goods h hk (aD a) 0 (by omega) _ hU
  obtain ⟨v1, v2, v3, v4, v5, v6⟩ := hV
  have hlen := gl_len (G := goodK a) (n := aD a)
  have hcV := h.x v1
  obtain ⟨f2, hf2, w3⟩ := c_rests (a := a) (ob := ob) (l := gl (goodK a) (aD a)) (V := V) (by omega) v2 v3 (fun g hg => (hcV.2.2.2.2.2.2.2.1 g (gl_mem.mp hg).1).2.2.2.1) 18 (Nat.le_refl _) (fun x => gj V 15 0 x) (fun j hj hj2 => by omega)
  rw [sR_id] at w3
  have hgd : gdO a (goodK a) (sR V f2) ob := by
    refine ⟨v2, v3, fun pre s e => ?_, fun k hkn => ?_⟩
    · have hp : pre.length ≤ 18 := by
        have := congrArg List.length e
        rw [List.length_append] at this; omega
      show (f2 pre.length).toInt = _
      rw [hf2 _ hp, e, List.drop_left']
      · refine rI_Z hk.2.2.2.2.2.2.1 s ?_ (fun k hks => (gl_mem.mp (by rw [e]; simp [hks])).1)
        have := congrArg List.length e
        rw [List.length_append] at this; omega
      · rfl
    · obtain ⟨-, x0, x1, x2, x3⟩ := hcV.2.2.2.2.2.2.2.1 k hkn
      exact ⟨x0, x1, x2, x3⟩
  have hid : sB (sR V f2) 0 0 (fun b => gj V 16 0 b) = sR V f2 := by
    have := sB_id (sR V f2)
    rw [show gj (sR V f2) 6 0 5 = 0 from v5, show gi (sR V f2) 6 0 4 = 0 from v4] at this
    exact this
  have s0 : sS a 0 = 0 := sumB_0
  have fs0 : ∀ y, FS a (gl (goodK a) (aD a)) 0 y → ∀ k, bt y k = true → k < aD a ∧ goodK a k := fun y hy k q => by
    by_cases m : k ∈ gl (goodK a) (aD a)
    · exact gl_mem.mp m
    · rw [hy.1 k m, b_0] at q; cases q
  obtain ⟨ss, cc, ⟨r1, r2, r3, r4, r5⟩, w4⟩ := c_dfs hk hgd (gl (goodK a) (aD a)) [] 0 0 0 0 0 (fun b => gj V 16 0 b) rfl
    ⟨fun k q => (by rw [b_0] at q; cases q), Feas_0 hk, fun g hg => ⟨fun _ j hj q => (by rw [b_0] at q; cases q), fun _ => l_ext (fun i _ => by rw [l_and, l_0]; simp)⟩, s0.symm, fun b hb => by
      show (gj V 16 0 b).toInt = _
      rw [v6 b hb]
      unfold byB
      rw [sumB_0]; omega⟩ s0.symm (fun k q => (by rw [b_0] at q; cases q)) (fun y hy e1 e2 => by
      have z := szB_eq (P := bt 0) (Q := bt y) (n := 18) (fun k _ q => by rw [b_0] at q; cases q) (by unfold zS at e2; exact e2.symm)
      have : lS y = lS 0 := sumB_c (fun k hkk => (z k hkk).symm)
      omega)
  have self0 : FS a (gl (goodK a) (aD a)) 0 0 := ⟨fun _ _ => rfl, Feas_0 hk⟩
  have rF : FS a (gl (goodK a) (aD a)) 0 cc := r3.elim (fun q => by rw [q]; exact self0) id
  refine ⟨ss, cc, sB (sR V f2) ss cc (fun b => gj V 16 0 b), SX.b (SX.R v1), rfl, rfl, r1, ⟨fs0 cc rF, rF.2, fun y hy hf => r4 y ⟨fun k hkm => ?_, hf⟩⟩, fun post hp => ?_⟩
  · cases q : bt y k with
    | true => exact absurd (gl_mem.mpr (hy k q)) hkm
    | false => rw [b_0]
  · intro S1 e1 S2 e2 S3 e3
    have e3 : S3 = sB (si S 6 0 3 0) 0 0 (fun b => gj S 16 0 b) := by
      rw [e3, e2, e1]
      have := sB_id (si S 6 0 3 0)
      rw [← this]
      rw [sB_cc, sB_ss, this]
      rfl
    rw [e3]
    refine ⟨aB a + 1, w1 _ ⟨aD a + 1, w2 _ ?_⟩⟩
    have e19 : rI a (List.drop (18 + 1) (gl (goodK a) (aD a))) = 0 := by rw [List.drop_eq_nil_of_le (by omega)]; rfl
    rw [e19] at w3
    refine ⟨20, w3 (fun S1 => ∃ n : Nat, n ≤ 20 ∧ wp_X6_tryFrom n (0 : Int32) (0 : Int32) (0 : Int64) (0 : Int64) S1 (fun S2 => post S2)) ⟨(gl (goodK a) (aD a)).length + 1, by omega, ?_⟩⟩
    rw [← hid]
    exact w4 _ hp
