/-! ===== the class's search ===== -/
def sB (S : St) (ss : Int64) (cc : Int32) (pf : Nat → Int64) : St := ((fun k j f => if k = 6 ∧ j = 0 ∧ f = 4 then cc else S.1 k j f), (fun k j f => if k = 6 ∧ j = 0 ∧ f = 5 then ss else if k = 16 ∧ j = 0 then pf f else S.2.1 k j f), S.2.2)
theorem sB_ss (S : St) (ss v : Int64) (cc : Int32) (pf : Nat → Int64) : sj (sB S ss cc pf) 6 0 5 v = sB S v cc pf := by
  refine Prod.ext rfl (Prod.ext ?_ rfl)
  funext k j f
  show (if k = 6 ∧ j = 0 ∧ f = 5 then v else if k = 6 ∧ j = 0 ∧ f = 5 then ss else if k = 16 ∧ j = 0 then pf f else S.2.1 k j f) = if k = 6 ∧ j = 0 ∧ f = 5 then v else if k = 16 ∧ j = 0 then pf f else S.2.1 k j f
  split <;> rfl
theorem sB_cc (S : St) (ss : Int64) (cc v : Int32) (pf : Nat → Int64) : si (sB S ss cc pf) 6 0 4 v = sB S ss v pf := by
  refine Prod.ext ?_ rfl
  funext k j f
  show (if k = 6 ∧ j = 0 ∧ f = 4 then v else if k = 6 ∧ j = 0 ∧ f = 4 then cc else S.1 k j f) = if k = 6 ∧ j = 0 ∧ f = 4 then v else S.1 k j f
  split <;> rfl
theorem sB_pf (S : St) (ss : Int64) (cc : Int32) (pf : Nat → Int64) (b : Nat) (v : Int64) : sj (sB S ss cc pf) 16 0 b v = sB S ss cc (fun x => if x = b then v else pf x) := by
  refine Prod.ext rfl (Prod.ext ?_ rfl)
  funext k j f
  show (if k = 16 ∧ j = 0 ∧ f = b then v else if k = 6 ∧ j = 0 ∧ f = 5 then ss else if k = 16 ∧ j = 0 then pf f else S.2.1 k j f) = if k = 6 ∧ j = 0 ∧ f = 5 then ss else if k = 16 ∧ j = 0 then (if f = b then v else pf f) else S.2.1 k j f
  by_cases h1 : k = 16 ∧ j = 0
  · rw [if_neg (show ¬ (k = 6 ∧ j = 0 ∧ f = 5) by omega), if_neg (show ¬ (k = 6 ∧ j = 0 ∧ f = 5) by omega), if_pos h1, if_pos h1]
    by_cases h2 : f = b
    · rw [if_pos ⟨h1.1, h1.2, h2⟩, if_pos h2]
    · rw [if_neg (fun q => h2 q.2.2), if_neg h2]
  · rw [if_neg (fun q => h1 ⟨q.1, q.2.1⟩), if_neg h1, if_neg h1]
theorem sB_id (S : St) : sB S (gj S 6 0 5) (gi S 6 0 4) (fun b => gj S 16 0 b) = S := by
  refine Prod.ext ?_ (Prod.ext ?_ rfl)
  · funext k j f
    show (if k = 6 ∧ j = 0 ∧ f = 4 then S.1 6 0 4 else S.1 k j f) = S.1 k j f
    split
    · rename_i q; rw [q.1, q.2.1, q.2.2]
    · rfl
  · funext k j f
    show (if k = 6 ∧ j = 0 ∧ f = 5 then S.2.1 6 0 5 else if k = 16 ∧ j = 0 then S.2.1 16 0 f else S.2.1 k j f) = S.2.1 k j f
    split
    · rename_i q; rw [q.1, q.2.1, q.2.2]
    · split
      · rename_i q; rw [q.1, q.2]
      · rfl
theorem and_or0 {x y z : Int64} : x &&& (y ||| z) = 0 ↔ (x &&& y = 0 ∧ x &&& z = 0) := by
  constructor
  · intro h
    constructor
    · refine l_ext (fun i hi => ?_)
      have := congrArg (fun w => bl w i) h
      simp only [l_and, l_or, l_0] at this ⊢
      cases hx : bl x i <;> cases hy : bl y i <;> simp_all
    · refine l_ext (fun i hi => ?_)
      have := congrArg (fun w => bl w i) h
      simp only [l_and, l_or, l_0] at this ⊢
      cases hx : bl x i <;> cases hy : bl y i <;> simp_all
  · rintro ⟨h1, h2⟩
    refine l_ext (fun i hi => ?_)
    have g1 := congrArg (fun w => bl w i) h1
    have g2 := congrArg (fun w => bl w i) h2
    simp only [l_and, l_or, l_0] at g1 g2 ⊢
    cases hx : bl x i <;> cases hy : bl y i <;> simp_all
theorem and_sym {x y : Int64} : x &&& y = y &&& x := l_ext (fun i _ => by rw [l_and, l_and, Bool.and_comm])
theorem c_isBetter {S : St} {ss sm : Int64} {cc x : Int32} {pf : Nat → Int64} (hx : ∀ k, bt x k = true → k < 18) (hc : ∀ k, bt cc k = true → k < 18) {post : Int32 → St → Prop} (h1 : (ss < sm ∨ (sm = ss ∧ zS x < zS cc)) → post 1 (sB S ss cc pf)) (h0 : ¬ (ss < sm ∨ (sm = ss ∧ zS x < zS cc)) → post 0 (sB S ss cc pf)) : wp_X6_isBetter sm x (sB S ss cc pf) post := by
  have off : ∀ w : Int32, (∀ k, bt w k = true → k < 18) → ∀ i, 18 ≤ i → i < 32 → bt w i = false := fun w hw i h _ => by
    cases q : bt w i with
    | true => have := hw i q; omega
    | false => rfl
  refine ⟨fun c => h1 (Or.inl c), fun c => ⟨fun c2 => h0 (fun q => q.elim c (fun z => c2 z.1)), fun c2 => ?_⟩⟩
  refine c_bitCount (off x hx) ?_
  show wp_J6_bitCount_0f7a4 cc (sB S ss cc pf) _
  refine c_bitCount (off cc hc) ?_
  have l1 := szB_le (bt x) 18
  have l2 := szB_le (bt cc) 18
  refine ⟨fun q => h0 (fun z => z.elim c (fun y => ?_)), fun q => h1 (Or.inr ⟨c2, ?_⟩)⟩
  · exact nI_ge (a := szB (bt x) 18) (b := szB (bt cc) 18) y.2 (by omega) q
  · rcases Nat.lt_or_ge (zS x) (zS cc) with z | z
    · exact z
    · refine absurd (?_ : nI (szB (bt cc) 18) ≤ nI (szB (bt x) 18)) q
      rw [Int32.le_iff_toInt_le, nI_toInt (by omega), nI_toInt (by omega)]
      unfold zS at z
      omega
def gdO (a : RS) (G : Nat → Prop) (S : St) (ob : Nat) : Prop :=
  gi S 6 0 3 = nI (gl G (aD a)).length ∧
  (∀ i g, (gl G (aD a))[i]? = some g → gr S 14 0 i = some (ob + g)) ∧
  (∀ pre s, gl G (aD a) = pre ++ s → (gj S 15 0 pre.length).toInt = rsum (bidC a) s) ∧
  (∀ k, k < aD a → gi S 0 (ob + k) 0 = nI k ∧ gi S 0 (ob + k) 1 = qi a 31 k ∧ gj S 0 (ob + k) 2 = qj a 32 k ∧ gj S 0 (ob + k) 3 = qj a 33 k)
theorem c_goodAt {S : St} {a : RS} {G : Nat → Prop} {ob : Nat} {ss : Int64} {cc : Int32} {pf : Nat → Int64} (hg : gdO a G S ob) (hn : aD a ≤ 18) {pre s : List Nat} (h : gl G (aD a) = pre ++ s) {post : Option Nat → St → Prop} (h0 : s = [] → post none (sB S ss cc pf)) (h1 : ∀ g s', s = g :: s' → post (some (ob + g)) (sB S ss cc pf)) : wp_X6_goodAt (nI pre.length) (sB S ss cc pf) post := by
  have hl := gl_len (G := G) (n := aD a)
  have hlen : (gl G (aD a)).length = pre.length + s.length := by rw [h, List.length_append]
  refine ⟨fun c => absurd c (nI_pos (by omega)), fun _ => ?_⟩
  show (gi S 6 0 3 ≤ nI pre.length → _) ∧ (¬ gi S 6 0 3 ≤ nI pre.length → _)
  rw [hg.1]
  cases s with
  | nil =>
    refine ⟨fun _ => h0 rfl, fun c => absurd ?_ c⟩
    rw [hlen, show pre.length + ([] : List Nat).length = pre.length from rfl]
    exact Int32.le_refl _
  | cons g s' =>
    have hlt : pre.length < (gl G (aD a)).length := by rw [hlen]; simp
    refine ⟨fun c => absurd c (nI_ge hlt (by omega)), fun _ => ⟨fun _ => ⟨vp_in_nI (by omega) (by omega), ?_⟩, fun c => absurd (nI_lt (b := 18) (by omega) (by omega)) c⟩⟩
    have e : gr S 14 0 pre.length = some (ob + g) := hg.2.1 pre.length g (by rw [h]; simp)
    rw [nI_clamp (by omega)]
    show (gr S 14 0 pre.length = none → _) ∧ (∀ j3, gr S 14 0 pre.length = some j3 → _)
    rw [e]
    exact ⟨fun c => (by cases c), fun j ej => by cases ej; exact h1 g s' rfl⟩
def dBy (a : RS) (pre : List Nat) (x : Int32) (tk sm : Int64) (pf : Nat → Int64) : Prop :=
  (∀ k, bt x k = true → k ∈ pre) ∧ Feas a x ∧ (∀ g, g < aD a → (bidL a g &&& tk = 0 ↔ ∀ j, j < aD a → bt x j = true → bidL a g &&& bidL a j = 0)) ∧ sm.toInt = sS a x ∧ (∀ b, b < aB a → (pf b).toInt = (freeV a b).toInt - byB a b x)
def FS (a : RS) (s : List Nat) (x y : Int32) : Prop := (∀ k, k ∉ s → bt y k = bt x k) ∧ Feas a y
def tieH (a : RS) (s : List Nat) (x cc : Int32) : Prop := ∀ y, FS a s x y → sS a y = sS a cc → zS y = zS cc → lS y ≤ lS cc
def dRes (a : RS) (s : List Nat) (x cc cc2 : Int32) (ss2 : Int64) : Prop := ss2.toInt = sS a cc2 ∧ (∀ k, bt cc2 k = true → k < aD a) ∧ (cc2 = cc ∨ FS a s x cc2) ∧ (∀ y, FS a s x y → kle a y cc2) ∧ kle a cc cc2
def restD (K : Int32 → Int32 → Int64 → Int64 → St → (St → Prop) → Prop) (p2 : Int32) (p3 : Int32) (p4 : Int64) (p5 : Int64) (S1 : St) (post : St → Prop) : Prop :=
  wp_X6_goodAt p2 S1 (fun r4 S3 =>
  (r4 = none →
  post S3) ∧
  (∀ j5 : Nat, r4 = some j5 →
  wp_X6_restFrom p2 S3 (fun r7 S6 =>
  wp_X6_isBetter (p5 + r7) p3 S6 (fun r9 S8 =>
  (¬ r9 = 0 →
  (¬ ((gj S8 0 j5 3) &&& p4) = (0 : Int64) →
  K (p2 + (1 : Int32)) p3 p4 p5 S8 (fun S10 =>
  post S10)) ∧
  (((gj S8 0 j5 3) &&& p4) = (0 : Int64) →
  wp_X6_spend (gi S8 0 j5 1) (gj S8 0 j5 2) S8 (fun r12 S11 =>
  (r12 = 0 →
  K (p2 + (1 : Int32)) p3 p4 p5 S11 (fun S13 =>
  post S13)) ∧
  (¬ r12 = 0 →
  K (p2 + (1 : Int32)) (p3 ||| ((1 : Int32) <<< ((gi S11 0 j5 0) &&& 31))) (p4 ||| (gj S11 0 j5 3)) (p5 + (gj S11 0 j5 2)) S11 (fun S14 =>
  wp_X6_spend (gi S14 0 j5 1) (-(gj S14 0 j5 2)) S14 (fun r16 S15 =>
  K (p2 + (1 : Int32)) p3 p4 p5 S15 (fun S17 =>
  post S17))))))) ∧
  (r9 = 0 →
  post S8)))))
theorem try_s {n : Nat} {p2 p3 : Int32} {p4 p5 : Int64} {S : St} {post : St → Prop} (h : wp_X6_isBetter p5 p3 S (fun r2 S1 => (r2 = 0 → restD (fun p2 p3 p4 p5 S0 post => wp_X6_tryFrom n p2 p3 p4 p5 S0 post) p2 p3 p4 p5 S1 post) ∧ (¬ r2 = 0 → ∀ S18 : St, S18 = sj S1 6 0 5 p5 → ∀ S19 : St, S19 = si S18 6 0 4 p3 → restD (fun p2 p3 p4 p5 S0 post => wp_X6_tryFrom n p2 p3 p4 p5 S0 post) p2 p3 p4 p5 S19 post))) : wp_X6_tryFrom (n + 1) p2 p3 p4 p5 S post := h
theorem FS_sub {a : RS} {g : Nat} {s : List Nat} {x y : Int32} (h : FS a s x y) : FS a (g :: s) x y := ⟨fun k hk => h.1 k (fun q => hk (by simp [q])), h.2⟩
theorem c_dfs {a : RS} {G : Nat → Prop} {S : St} {ob : Nat} (hk : Ok a) (hg : gdO a G S ob) : ∀ (s pre : List Nat) (x : Int32) (tk sm ss : Int64) (cc : Int32) (pf : Nat → Int64), gl G (aD a) = pre ++ s → dBy a pre x tk sm pf → ss.toInt = sS a cc → (∀ k, bt cc k = true → k < aD a) → tieH a s x cc →
    ∃ ss2 cc2, dRes a s x cc cc2 ss2 ∧ ∀ post : St → Prop, post (sB S ss2 cc2 pf) → wp_X6_tryFrom (s.length + 1) (nI pre.length) x tk sm (sB S ss cc pf) post := by
  have hn := hk.1.2.2.2.2.2.1
  have hB := hk.1.2.2.2.1
  have hC := bidC_b hk.2.2.2.2.2.2.1
  have hU := bidU_b hk.2.2.2.2.2.2.1
  have hCn : ∀ k, 0 ≤ bidC a k := fun k => (hC k).1
  intro s
  induction s with
  | nil =>
    intro pre x tk sm ss cc pf hgl hD hss hcc htie
    obtain ⟨d1, d2, d3, d4, d5⟩ := hD
    have hx : ∀ k, bt x k = true → k < aD a := fun k q => (gl_mem.mp (by rw [hgl]; simp [d1 k q])).1
    have self : ∀ y, FS a [] x y → y = x := fun y hy => b_ext (fun k _ => hy.1 k (by simp))
    have hxF : FS a [] x x := ⟨fun _ _ => rfl, d2⟩
    have hwalk : ∀ ss0 cc0 post, post (sB S ss0 cc0 pf) → restD (fun p2 p3 p4 p5 S0 post => wp_X6_tryFrom 0 p2 p3 p4 p5 S0 post) (nI pre.length) x tk sm (sB S ss0 cc0 pf) post := by
      intro ss0 cc0 post hp
      exact c_goodAt hg hn hgl (fun _ => ⟨fun _ => hp, fun j e => (by cases e)⟩) (fun g s' e => (by cases e))
    by_cases hb : ss < sm ∨ (sm = ss ∧ zS x < zS cc)
    · refine ⟨sm, x, ⟨d4, hx, Or.inr hxF, fun y hy => by rw [self y hy]; exact kle_r, ?_⟩, fun post hp => try_s (c_isBetter (fun k q => by have := hx k q; omega) (fun k q => by have := hcc k q; omega) (fun _ => ⟨fun c => absurd c (by decide), fun _ S18 e18 S19 e19 => ?_⟩) (fun c => absurd hb c))⟩
      · unfold kle
        rcases hb with q | q
        · have := j_lt.mp q; omega
        · have := congrArg Int64.toInt q.1; omega
      · rw [e19, e18, sB_ss, sB_cc]; exact hwalk _ _ _ hp
    · refine ⟨ss, cc, ⟨hss, hcc, Or.inl rfl, fun y hy => ?_, kle_r⟩, fun post hp => try_s (c_isBetter (fun k q => by have := hx k q; omega) (fun k q => by have := hcc k q; omega) (fun c => absurd c hb) (fun _ => ⟨fun _ => hwalk _ _ _ hp, fun c => absurd rfl c⟩))⟩
      rw [self y hy]
      have t := htie x hxF
      unfold kle
      have n1 : ¬ ss.toInt < sm.toInt := fun q => hb (Or.inl (j_lt.mpr q))
      have n2 : sm.toInt = ss.toInt → ¬ zS x < zS cc := fun q z => hb (Or.inr ⟨j_inj.mp q, z⟩)
      rw [hss, d4] at n1 n2
      omega
  | cons g s ih =>
    intro pre x tk sm ss cc pf hgl hD hss hcc htie
    have hgl2 : gl G (aD a) = (pre ++ [g]) ++ s := by rw [hgl]; simp
    obtain ⟨hpre, hsuf, hgn, hgG, hsn⟩ := gl_cut hgl
    obtain ⟨d1, d2, d3, d4, d5⟩ := hD
    have hx : ∀ k, bt x k = true → k < aD a := fun k q => (gl_mem.mp (by rw [hgl]; simp [d1 k q])).1
    have hxg : bt x g = false := by
      cases q : bt x g with
      | true => have := hpre g (d1 g q); omega
      | false => rfl
    have hxF : FS a (g :: s) x x := ⟨fun _ _ => rfl, d2⟩
    have gns : g ∉ s := fun q => by have := hsuf g q; omega
    obtain ⟨bid0, bid1, bid2, bid3⟩ := hg.2.2.2 g hgn
    have el : nI pre.length + 1 = nI (pre ++ [g]).length := by rw [nI_1]; simp
    have hlen := gl_len (G := G) (n := aD a)
    have hlen2 : (gl G (aD a)).length = pre.length + (s.length + 1) := by rw [hgl]; simp
    -- the rest of the call, whatever the best set is by then
    have rest : ∀ (ss0 : Int64) (cc0 : Int32), ss0.toInt = sS a cc0 → (∀ k, bt cc0 k = true → k < aD a) → tieH a (g :: s) x cc0 → kle a x cc0 → ∃ ss2 cc2, dRes a (g :: s) x cc0 cc2 ss2 ∧ ∀ post : St → Prop, post (sB S ss2 cc2 pf) → restD (fun p2 p3 p4 p5 S0 post => wp_X6_tryFrom (s.length + 1) p2 p3 p4 p5 S0 post) (nI pre.length) x tk sm (sB S ss0 cc0 pf) post := by
      intro ss0 cc0 h1 h2 h3 h4
      obtain ⟨rs, hrs⟩ : ∃ rs, rs = gj S 15 0 pre.length := ⟨_, rfl⟩
      have hr : rs.toInt = rsum (bidC a) (g :: s) := by rw [hrs]; exact hg.2.2.1 pre (g :: s) hgl
      have hrb := rsum_bd (C := bidC a) (g :: s) (fun k _ => hC k)
      have hsb := sumB_le (C := bidC a) (P := bt x) (n := aD a) (fun k _ => hC k)
      have hsn0 := sumB_nn (C := bidC a) (P := bt x) (n := aD a) (fun k _ => hCn k)
      have hsS : sS a x = sumB (bidC a) (bt x) (aD a) := rfl
      have hl3 : (g :: s).length = s.length + 1 := rfl
      have hsr : (sm + rs).toInt = sS a x + rsum (bidC a) (g :: s) := by
        rw [j_add (by omega) (by omega), d4, hr]
      -- the walk up to the bound's test
      have walk : ∀ (post : St → Prop), ((sB S ss0 cc0 pf = sB S ss0 cc0 pf) → (ss0 < sm + rs ∨ (sm + rs = ss0 ∧ zS x < zS cc0)) → ((¬ (bidL a g &&& tk) = (0 : Int64) → wp_X6_tryFrom (s.length + 1) (nI (pre ++ [g]).length) x tk sm (sB S ss0 cc0 pf) post) ∧ ((bidL a g &&& tk) = (0 : Int64) → wp_X6_spend (qi a 31 g) (qj a 32 g) (sB S ss0 cc0 pf) (fun r12 S11 => (r12 = 0 → wp_X6_tryFrom (s.length + 1) (nI pre.length + 1) x tk sm S11 post) ∧ (¬ r12 = 0 → wp_X6_tryFrom (s.length + 1) (nI pre.length + 1) (x ||| ((1 : Int32) <<< ((gi S11 0 (ob + g) 0) &&& 31))) (tk ||| (gj S11 0 (ob + g) 3)) (sm + (gj S11 0 (ob + g) 2)) S11 (fun S14 => wp_X6_spend (gi S14 0 (ob + g) 1) (-(gj S14 0 (ob + g) 2)) S14 (fun r16 S15 => wp_X6_tryFrom (s.length + 1) (nI pre.length + 1) x tk sm S15 post))))))) → (¬ (ss0 < sm + rs ∨ (sm + rs = ss0 ∧ zS x < zS cc0)) → post (sB S ss0 cc0 pf)) → restD (fun p2 p3 p4 p5 S0 post => wp_X6_tryFrom (s.length + 1) p2 p3 p4 p5 S0 post) (nI pre.length) x tk sm (sB S ss0 cc0 pf) post := by
        intro post f1 f0
        refine c_goodAt hg hn hgl (fun e => (by cases e)) (fun g2 s2 e => ⟨fun c => (by cases c), fun j ej => ?_⟩)
        cases e
        cases ej
        refine ⟨fun c => absurd c (nI_pos (by omega)), fun _ => ⟨fun _ => ⟨vp_in_nI (by omega) (by omega), ?_⟩, fun c => absurd (nI_lt (b := 19) (by omega) (by omega)) c⟩⟩
        rw [nI_clamp (by omega)]
        show wp_X6_isBetter (sm + gj S 15 0 pre.length) x (sB S ss0 cc0 pf) _
        rw [← hrs]
        refine c_isBetter (fun k q => by have := hx k q; omega) (fun k q => by have := h2 k q; omega) (fun q => ⟨fun _ => ?_, fun c => absurd c (by decide)⟩) (fun q => ⟨fun c => absurd rfl c, fun _ => f0 q⟩)
        obtain ⟨f2, f3⟩ := f1 rfl q
        show (¬ (gj S 0 (ob + g) 3 &&& tk) = (0 : Int64) → wp_X6_tryFrom (s.length + 1) (nI pre.length + 1) x tk sm (sB S ss0 cc0 pf) post) ∧ ((gj S 0 (ob + g) 3 &&& tk) = (0 : Int64) → wp_X6_spend (gi S 0 (ob + g) 1) (gj S 0 (ob + g) 2) (sB S ss0 cc0 pf) (fun r12 S11 => (r12 = 0 → wp_X6_tryFrom (s.length + 1) (nI pre.length + 1) x tk sm S11 post) ∧ (¬ r12 = 0 → wp_X6_tryFrom (s.length + 1) (nI pre.length + 1) (x ||| ((1 : Int32) <<< ((gi S11 0 (ob + g) 0) &&& 31))) (tk ||| (gj S11 0 (ob + g) 3)) (sm + (gj S11 0 (ob + g) 2)) S11 (fun S14 => wp_X6_spend (gi S14 0 (ob + g) 1) (-(gj S14 0 (ob + g) 2)) S14 (fun r16 S15 => wp_X6_tryFrom (s.length + 1) (nI pre.length + 1) x tk sm S15 post)))))
        rw [bid3, bid1, bid2]
        exact ⟨fun c => by rw [el]; exact f2 c, f3⟩
      by_cases hbd : ss0 < sm + rs ∨ (sm + rs = ss0 ∧ zS x < zS cc0)
      · -- without g
        have noG : (∀ y, FS a (g :: s) x y → bt y g = false) → ∃ ss2 cc2, dRes a (g :: s) x cc0 cc2 ss2 ∧ ∀ post : St → Prop, post (sB S ss2 cc2 pf) → wp_X6_tryFrom (s.length + 1) (nI (pre ++ [g]).length) x tk sm (sB S ss0 cc0 pf) post := by
          intro hno
          have hin : ∀ y, FS a (g :: s) x y → FS a s x y := fun y hy => ⟨fun k hks => by
            by_cases e : k = g
            · subst e; rw [hno y hy, hxg]
            · exact hy.1 k (by simp [e, hks]), hy.2⟩
          obtain ⟨ss2, cc2, ⟨r1, r2, r3, r4, r5⟩, w⟩ := ih (pre ++ [g]) x tk sm ss0 cc0 pf hgl2 ⟨fun k q => by simp [d1 k q], d2, d3, d4, d5⟩ h1 h2 (fun y hy => h3 y (FS_sub hy))
          exact ⟨ss2, cc2, ⟨r1, r2, r3.imp id FS_sub, fun y hy => r4 y (hin y hy), r5⟩, w⟩
        by_cases hdis : (bidL a g &&& tk) = (0 : Int64)
        · obtain ⟨bb, hbb, ebb⟩ := (hk.2.2.2.2.2.2.1 g hgn).1
          have inb : vp_in (nI bb) 30 := vp_in_nI (by omega) (by omega)
          have hCg : bidC a g = (qj a 32 g).toInt := if_pos hgn
          have hCgb := hC g
          have pfv : ∀ b, b < aB a → (pf b).toInt = (freeV a b).toInt - byB a b x := d5
          have frb := (hk.2.2.2.2.1 bb hbb)
          have frz : (freeV a bb).toInt = (qj a 28 bb).toInt - heldZ a bb (aL a) := free_Z hk hbb
          have hnn := heldZ_nn (a := a) (b := bb) (n := aL a) (fun i hi => hk.h0 hi bb)
          have hby0 : 0 ≤ byB a bb x := sumB_nn (fun k _ => (hU bb k).1)
          have hUg : bidU a bb g = bidC a g := if_pos ebb
          by_cases hpay : qj a 32 g ≤ pf bb
          · -- g can join
            have hpayZ := j_le.mp hpay
            obtain ⟨x2, hx2⟩ : ∃ x2, x2 = x ||| ((1 : Int32) <<< (nI g &&& 31)) := ⟨_, rfl⟩
            have bx2 : ∀ k, bt x2 k = true ↔ (bt x k = true ∨ k = g) := by
              intro k
              by_cases q : k < 32
              · rw [hx2, b_set x (by omega) q]; simp
              · rw [b_big (x := x2) (by omega), b_big (x := x) (by omega)]
                constructor
                · intro c; cases c
                · rintro (c | c)
                  · cases c
                  · omega
            have bx2n : ∀ k, k ≠ g → bt x2 k = bt x k := by
              intro k q
              cases z : bt x k with
              | true => exact (bx2 k).mpr (Or.inl z)
              | false =>
                cases z2 : bt x2 k with
                | false => rfl
                | true =>
                  rcases (bx2 k).mp z2 with y | y
                  · rw [z] at y; cases y
                  · exact absurd y q
            have bx2g : bt x2 g = true := (bx2 g).mpr (Or.inr rfl)
            have hs2 : sS a x2 = sS a x + bidC a g := sumB_u hgn bx2n hxg bx2g
            have hb2 : ∀ b, byB a b x2 = byB a b x + bidU a b g := fun b => sumB_u hgn bx2n hxg bx2g
            have hdj := (d3 g hgn).mp hdis
            have F2 : Feas a x2 := by
              refine ⟨fun j k hj hkk hne bj bk => ?_, fun b hb => ?_⟩
              · rcases (bx2 j).mp bj with q | q
                · rcases (bx2 k).mp bk with z | z
                  · exact d2.1 j k hj hkk hne q z
                  · subst z; rw [and_sym]; exact hdj j hj q
                · subst q
                  rcases (bx2 k).mp bk with z | z
                  · exact hdj k hkk z
                  · exact absurd z.symm hne
              · rw [hb2]
                by_cases e : b = bb
                · subst e
                  rw [hUg]
                  have := pfv b hb
                  omega
                · have : bidU a b g = 0 := if_neg (fun z => e ((nI_eq (by omega) (by omega)).mp (z.symm.trans ebb)))
                  rw [this]
                  have := d2.2 b hb
                  omega
            obtain ⟨pf2, hpf2⟩ : ∃ pf2 : Nat → Int64, pf2 = fun y => if y = bb then pf bb - qj a 32 g else pf y := ⟨_, rfl⟩
            have hpfb := pfv bb hbb
            have esub : (pf bb - qj a 32 g).toInt = (pf bb).toInt - (qj a 32 g).toInt := j_sub (by omega) (by omega)
            have eadd : (sm + qj a 32 g).toInt = sS a x2 := by
              rw [j_add (by omega) (by omega), d4, hs2, hCg]
            have D2 : dBy a (pre ++ [g]) x2 (tk ||| qj a 33 g) (sm + qj a 32 g) pf2 := by
              refine ⟨fun k q => ?_, F2, fun h hh => ?_, eadd, fun b hb => ?_⟩
              · rcases (bx2 k).mp q with z | z
                · simp [d1 k z]
                · simp [z]
              · rw [and_or0, d3 h hh]
                constructor
                · rintro ⟨z1, z2⟩ j hj bj
                  rcases (bx2 j).mp bj with z | z
                  · exact z1 j hj z
                  · subst z; exact z2
                · intro z
                  exact ⟨fun j hj bj => z j hj ((bx2 j).mpr (Or.inl bj)), z g hgn bx2g⟩
              · rw [hb2]
                by_cases e : b = bb
                · subst e
                  have ep : pf2 b = pf b - qj a 32 g := by rw [hpf2]; exact if_pos rfl
                  rw [ep, esub, hUg, hCg, hpfb]; omega
                · have ep : pf2 b = pf b := by rw [hpf2]; exact if_neg e
                  rw [ep]
                  have : bidU a b g = 0 := if_neg (fun z => e ((nI_eq (by omega) (by omega)).mp (z.symm.trans ebb)))
                  rw [this, pfv b hb]; omega
            have sub2 : ∀ y, FS a s x2 y → FS a (g :: s) x y := fun y hy => ⟨fun k hks => by
              have : k ≠ g := fun z => hks (by simp [z])
              rw [← bx2n k this]; exact hy.1 k (fun z => hks (by simp [z])), hy.2⟩
            obtain ⟨ss1, cc1, ⟨r1, r2, r3, r4, r5⟩, w1⟩ := ih (pre ++ [g]) x2 (tk ||| qj a 33 g) (sm + qj a 32 g) ss0 cc0 pf2 hgl2 D2 h1 h2 (fun y hy => h3 y (sub2 y hy))
            have t1 : tieH a s x cc1 := by
              intro y hy e1 e2
              rcases r3 with q | q
              · subst q; exact h3 y (FS_sub hy) e1 e2
              · have g1 : bt cc1 g = true := by rw [q.1 g gns]; exact bx2g
                have g0 : bt y g = false := by rw [hy.1 g gns]; exact hxg
                have := lex_lt (P := bt cc1) (Q := bt y) (g := g) (by omega) (fun k hkk => by
                  have ks : k ∉ s := fun z => by have := hsuf k z; omega
                  rw [q.1 k ks, hy.1 k ks]; exact bx2n k (by omega)) g1 g0
                unfold lS; omega
            obtain ⟨ss2, cc2, ⟨u1, u2, u3, u4, u5⟩, w2⟩ := ih (pre ++ [g]) x tk sm ss1 cc1 pf hgl2 ⟨fun k q => by simp [d1 k q], d2, d3, d4, d5⟩ r1 r2 t1
            refine ⟨ss2, cc2, ⟨u1, u2, ?_, fun y hy => ?_, kle_t r5 u5⟩, fun post hp => walk post (fun _ _ => ⟨fun c => absurd hdis c, fun _ => ?_⟩) (fun c => absurd hbd c)⟩
            · rcases u3 with q | q
              · subst q
                exact r3.imp id (sub2 _)
              · exact Or.inr (FS_sub q)
            · cases hyg : bt y g with
              | true =>
                refine kle_t (r4 y ⟨fun k hks => ?_, hy.2⟩) u5
                by_cases e : k = g
                · subst e; rw [hyg, bx2g]
                · rw [bx2n k e]; exact hy.1 k (by simp [e, hks])
              | false =>
                refine u4 y ⟨fun k hks => ?_, hy.2⟩
                by_cases e : k = g
                · subst e; rw [hyg, hxg]
                · exact hy.1 k (by simp [e, hks])
            · rw [ebb]
              refine ⟨fun c => absurd c (nI_pos (by omega)), fun _ => ⟨fun c => absurd c (nI_ge (b := 30) (by omega) (by omega)), fun _ => ⟨inb, ?_⟩⟩⟩
              rw [nI_clamp (by omega)]
              show (qj a 32 g ≤ pf bb → _) ∧ (¬ qj a 32 g ≤ pf bb → _)
              refine ⟨fun _ => ⟨inb, inb, fun S4 e4 => ⟨fun c => absurd c (by decide), fun _ => ?_⟩⟩, fun c => absurd hpay c⟩
              have e4 : S4 = sj (sB S ss0 cc0 pf) 16 0 bb (pf bb - qj a 32 g) := e4
              rw [sB_pf, ← hpf2] at e4
              subst e4
              show wp_X6_tryFrom (s.length + 1) (nI pre.length + 1) (x ||| ((1 : Int32) <<< ((gi S 0 (ob + g) 0) &&& 31))) (tk ||| (gj S 0 (ob + g) 3)) (sm + (gj S 0 (ob + g) 2)) (sB S ss0 cc0 pf2) _
              rw [bid0, bid2, bid3, ← hx2, el]
              refine w1 _ ?_
              show wp_X6_spend (gi S 0 (ob + g) 1) (-(gj S 0 (ob + g) 2)) (sB S ss1 cc1 pf2) _
              rw [bid1, bid2, ebb]
              refine ⟨fun c => absurd c (nI_pos (by omega)), fun _ => ⟨fun c => absurd c (nI_ge (b := 30) (by omega) (by omega)), fun _ => ⟨inb, ?_⟩⟩⟩
              rw [nI_clamp (by omega)]
              have ep2 : pf2 bb = pf bb - qj a 32 g := by rw [hpf2]; exact if_pos rfl
              have eneg : (-(qj a 32 g)).toInt = -(qj a 32 g).toInt := by
                have : -(qj a 32 g) = 0 - qj a 32 g := by grind
                rw [this, j_sub (x := 0) (by rw [show (0 : Int64).toInt = 0 from rfl]; omega) (by rw [show (0 : Int64).toInt = 0 from rfl]; omega), show (0 : Int64).toInt = 0 from rfl]; omega
              show (-(qj a 32 g) ≤ pf2 bb → _) ∧ (¬ -(qj a 32 g) ≤ pf2 bb → _)
              refine ⟨fun _ => ⟨inb, inb, fun S5 e5 => ?_⟩, fun c => absurd (j_le.mpr (by rw [ep2, esub, eneg]; omega)) c⟩
              have e5 : S5 = sj (sB S ss1 cc1 pf2) 16 0 bb (pf2 bb - -(qj a 32 g)) := e5
              have epf : (fun y => if y = bb then pf2 bb - -(qj a 32 g) else pf2 y) = pf := by
                funext y
                by_cases e : y = bb
                · subst e; rw [if_pos rfl, ep2]; grind
                · rw [if_neg e, hpf2]; exact if_neg e
              rw [sB_pf, epf] at e5
              rw [e5]
              exact w2 post hp
          · -- g's buyer cannot
            obtain ⟨ss2, cc2, R, w⟩ := noG (fun y hy => by
              cases q : bt y g with
              | false => rfl
              | true =>
                have f := hy.2.2 bb hbb
                have m : byB a bb x + bidU a bb g ≤ byB a bb y := by
                  have mm := sumB_m (C := bidU a bb) (P := fun k => bt x k || decide (k = g)) (Q := bt y) (n := aD a) (fun k _ => (hU bb k).1) (fun k hkn z => by
                    by_cases e : k = g
                    · subst e; exact q
                    · simp [e] at z
                      have ks : k ∉ g :: s := by
                        intro y2
                        rcases List.mem_cons.mp y2 with v | v
                        · exact e v
                        · have := hpre k (d1 k z); have := hsuf k v; omega
                      rw [hy.1 k ks]; exact z)
                  have uu := sumB_u (C := bidU a bb) (P := bt x) (Q := fun k => bt x k || decide (k = g)) hgn (fun k e => by simp [e]) hxg (by simp)
                  unfold byB; omega
                rw [hUg] at m
                have := pfv bb hbb
                exact absurd (j_le.mpr (by omega)) hpay)
            refine ⟨ss2, cc2, R, fun post hp => walk post (fun _ _ => ⟨fun c => absurd hdis c, fun _ => ?_⟩) (fun c => absurd hbd c)⟩
            rw [ebb]
            refine ⟨fun c => absurd c (nI_pos (by omega)), fun _ => ⟨fun c => absurd c (nI_ge (b := 30) (by omega) (by omega)), fun _ => ⟨inb, ?_⟩⟩⟩
            rw [nI_clamp (by omega)]
            show (qj a 32 g ≤ pf bb → _) ∧ (¬ qj a 32 g ≤ pf bb → _)
            exact ⟨fun c => absurd c hpay, fun _ => ⟨fun _ => by rw [el]; exact w post hp, fun c => absurd rfl c⟩⟩
        · -- g's lots are taken
          obtain ⟨ss2, cc2, R, w⟩ := noG (fun y hy => by
            cases q : bt y g with
            | false => rfl
            | true =>
              refine absurd ((d3 g hgn).mpr (fun j hj bj => ?_)) hdis
              have js : j ∉ g :: s := by
                intro y2
                rcases List.mem_cons.mp y2 with v | v
                · subst v; rw [hxg] at bj; cases bj
                · have := hpre j (d1 j bj); have := hsuf j v; omega
              exact hy.2.1 g j hgn hj (fun z => by subst z; rw [hxg] at bj; cases bj) q (by rw [hy.1 j js]; exact bj))
          exact ⟨ss2, cc2, R, fun post hp => walk post (fun _ _ => ⟨fun _ => w post hp, fun c => absurd c hdis⟩) (fun c => absurd hbd c)⟩
      · -- cut off
        refine ⟨ss0, cc0, ⟨h1, h2, Or.inl rfl, fun y hy => ?_, kle_r⟩, fun post hp => walk post (fun _ c => absurd c hbd) (fun _ => hp)⟩
        have hy1 : sS a y ≤ sS a x + rsum (bidC a) (g :: s) := rsum_b hCn (g :: s) (bt x) (bt y) hy.1
        have hxy : ∀ k, k < 18 → bt x k = true → bt y k = true := fun k _ z => by
          have ks : k ∉ g :: s := by
            intro y2
            rcases List.mem_cons.mp y2 with v | v
            · subst v; rw [hxg] at z; cases z
            · have := hpre k (d1 k z); have := hsuf k v; omega
          rw [hy.1 k ks]; exact z
        have hz : zS x ≤ zS y := szB_m hxy
        have n1 : ¬ ss0.toInt < (sm + rs).toInt := fun q => hbd (Or.inl (j_lt.mpr q))
        have n2 : (sm + rs).toInt = ss0.toInt → ¬ zS x < zS cc0 := fun q z => hbd (Or.inr ⟨j_inj.mp q, z⟩)
        rw [h1, hsr] at n1 n2
        have t := h3 y hy
        unfold kle
        omega
    by_cases hb : ss < sm ∨ (sm = ss ∧ zS x < zS cc)
    · have kx : kle a cc x := by
        unfold kle
        rcases hb with q | q
        · have := j_lt.mp q; omega
        · have := congrArg Int64.toInt q.1; omega
      have t0 : tieH a (g :: s) x x := by
        intro y hy e1 e2
        have hxy : ∀ k, k < 18 → bt x k = true → bt y k = true := fun k _ z => by
          have ks : k ∉ g :: s := by
            intro y2
            rcases List.mem_cons.mp y2 with v | v
            · subst v; rw [hxg] at z; cases z
            · have := hpre k (d1 k z); have := hsuf k v; omega
          rw [hy.1 k ks]; exact z
        have := szB_eq hxy e2.symm
        have : lS y = lS x := sumB_c (fun k hkk => (this k hkk).symm)
        omega
      obtain ⟨ss2, cc2, ⟨r1, r2, r3, r4, r5⟩, w⟩ := rest sm x d4 hx t0 kle_r
      refine ⟨ss2, cc2, ⟨r1, r2, ?_, r4, kle_t kx r5⟩, fun post hp => try_s (c_isBetter (fun k q => by have := hx k q; omega) (fun k q => by have := hcc k q; omega) (fun _ => ⟨fun c => absurd c (by decide), fun _ S18 e18 S19 e19 => ?_⟩) (fun c => absurd hb c))⟩
      · rcases r3 with q | q
        · rw [q]; exact Or.inr hxF
        · exact Or.inr q
      · rw [e19, e18, sB_ss, sB_cc]; exact w post hp
    · have kx : kle a x cc := by
        have t := htie x hxF
        have n1 : ¬ ss.toInt < sm.toInt := fun q => hb (Or.inl (j_lt.mpr q))
        have n2 : sm.toInt = ss.toInt → ¬ zS x < zS cc := fun q z => hb (Or.inr ⟨j_inj.mp q, z⟩)
        rw [hss, d4] at n1 n2
        unfold kle
        omega
      obtain ⟨ss2, cc2, R, w⟩ := rest ss cc hss hcc htie kx
      exact ⟨ss2, cc2, R, fun post hp => try_s (c_isBetter (fun k q => by have := hx k q; omega) (fun k q => by have := hcc k q; omega) (fun c => absurd c hb) (fun _ => ⟨fun _ => w post hp, fun c => absurd rfl c⟩))⟩
