/-! order: the lots of a kind by their place -/
def ahead (g : Nat → Int64) (j i : Nat) : Prop := g i < g j ∨ (g j = g i ∧ j < i)
theorem ahead_irr (g : Nat → Int64) (i : Nat) : ¬ ahead g i i := by unfold ahead; grind
theorem ahead_tr {g : Nat → Int64} {i j k : Nat} (h1 : ahead g i j) (h2 : ahead g j k) : ahead g i k := by unfold ahead at *; grind
theorem ahead_tot {g : Nat → Int64} {i j : Nat} (h : i ≠ j) : ahead g i j ∨ ahead g j i := by unfold ahead; grind
noncomputable def cnt (p : Nat → Prop) : Nat → Nat
  | 0 => 0
  | n + 1 => cnt p n + @ite Nat (p n) (Classical.propDecidable (p n)) 1 0
theorem cnt_le {p q : Nat → Prop} {n : Nat} (h : ∀ j, j < n → p j → q j) : cnt p n ≤ cnt q n := by
  induction n with
  | zero => exact Nat.le_refl _
  | succ n ih =>
    have h1 := ih (fun j hj => h j (by omega))
    have h2 := h n (by omega)
    simp only [cnt]
    by_cases c : p n
    · rw [if_pos c, if_pos (h2 c)]; omega
    · rw [if_neg c]; split <;> omega
theorem cnt_congr {p q : Nat → Prop} {n : Nat} (h : ∀ j, j < n → (p j ↔ q j)) : cnt p n = cnt q n := Nat.le_antisymm (cnt_le fun j hj => (h j hj).mp) (cnt_le fun j hj => (h j hj).mpr)
theorem cnt_one {p q : Nat → Prop} {n b : Nat} (hb : b < n) (hq : ¬ q b) (h : ∀ j, j < n → (p j ↔ q j ∨ j = b)) : cnt p n = cnt q n + 1 := by
  induction n with
  | zero => omega
  | succ n ih =>
    simp only [cnt]
    by_cases c : n = b
    · subst c
      rw [if_pos ((h n (by omega)).mpr (Or.inr rfl)), if_neg hq, cnt_congr (p := p) (q := q) (fun j hj => by rw [h j (by omega)]; exact ⟨fun z => z.elim id (fun z => absurd z (by omega)), Or.inl⟩)]
    · have h1 := ih (by omega) (fun j hj => h j (by omega))
      have h2 := h n (by omega)
      by_cases d : q n
      · rw [if_pos (h2.mpr (Or.inl d)), if_pos d]; omega
      · rw [if_neg (fun z => (h2.mp z).elim d c), if_neg d]; omega
theorem cnt_n (p : Nat → Prop) (n : Nat) : cnt p n ≤ n := by
  induction n with
  | zero => exact Nat.le_refl _
  | succ n ih => simp only [cnt]; split <;> omega
noncomputable def rankO (P : Nat → Prop) (g : Nat → Int64) (n i : Nat) : Nat := cnt (fun j => P j ∧ ahead g j i) n
theorem rank_lt {P : Nat → Prop} {g : Nat → Int64} {n i j : Nat} (hi : i < n) (hP : P i) (h : ahead g i j) : rankO P g n i < rankO P g n j := by
  have h1 : cnt (fun q => (P q ∧ ahead g q i) ∨ q = i) n ≤ rankO P g n j := cnt_le (fun q hq hc => by
    rcases hc with hc | rfl
    · exact ⟨hc.1, ahead_tr hc.2 h⟩
    · exact ⟨hP, h⟩)
  have h2 : cnt (fun q => (P q ∧ ahead g q i) ∨ q = i) n = rankO P g n i + 1 := cnt_one hi (fun z => ahead_irr g i z.2) (fun q _ => Iff.rfl)
  omega
theorem rank_inj {P : Nat → Prop} {g : Nat → Int64} {n i j : Nat} (hi : i < n) (hj : j < n) (hPi : P i) (hPj : P j) (h : rankO P g n i = rankO P g n j) : i = j := by
  by_cases e : i = j
  · exact e
  · rcases ahead_tot (g := g) e with q | q
    · have := rank_lt (n := n) hi hPi q; omega
    · have := rank_lt (n := n) hj hPj q; omega
theorem rank_bd {P : Nat → Prop} {g : Nat → Int64} {n i : Nat} (hi : i < n) (hP : P i) : rankO P g n i < n := by
  have h2 : cnt (fun q => (P q ∧ ahead g q i) ∨ q = i) n = rankO P g n i + 1 := cnt_one hi (fun z => ahead_irr g i z.2) (fun q _ => Iff.rfl)
  have := cnt_n (fun q => (P q ∧ ahead g q i) ∨ q = i) n
  omega
noncomputable def rkN (P : Nat → Prop) (g : Nat → Int64) (n : Nat) (ob : Option Nat) : Nat := match ob with
  | none => 0
  | some b => rankO P g n b + 1
theorem cnt_F (n : Nat) : cnt (fun _ => False) n = 0 := by
  induction n with
  | zero => rfl
  | succ n ih => simp only [cnt]; rw [ih, if_neg (fun h => h)]
/-- the least of those behind b (of all, if there is no b) has the next rank -/
theorem rank_next {P : Nat → Prop} {g : Nat → Int64} {n c : Nat} {B : Nat → Prop} (ob : Option Nat) (hob : ∀ b, ob = some b → b < n ∧ P b) (hB : ∀ j, B j ↔ ∀ b, ob = some b → ahead g b j) (hc : c < n) (hPc : P c) (hBc : B c) (hmin : ∀ j, j < n → P j → B j → j ≠ c → ahead g c j) : rankO P g n c = rkN P g n ob := by
  cases ob with
  | none =>
    have h0 : rankO P g n c = cnt (fun _ => False) n := cnt_congr (fun j hj => ⟨fun h => ahead_irr g c (ahead_tr (hmin j hj h.1 ((hB j).mpr fun b hb => by cases hb) (fun e => ahead_irr g c (e ▸ h.2))) h.2), fun h => h.elim⟩)
    rw [h0, cnt_F]
    rfl
  | some b =>
    obtain ⟨hb, hPb⟩ := hob b rfl
    have hbc : ahead g b c := (hB c).mp hBc b rfl
    exact cnt_one hb (fun z => ahead_irr g b z.2) (fun j hj => ⟨fun h => by
      by_cases e : j = b
      · exact Or.inr e
      · rcases ahead_tot (g := g) e with q | q
        · exact Or.inl ⟨h.1, q⟩
        · exact absurd (ahead_tr (hmin j hj h.1 ((hB j).mpr fun b2 hb2 => by cases hb2; exact q) (fun e2 => ahead_irr g c (e2 ▸ h.2))) h.2) (ahead_irr g c), fun h => by
      rcases h with h | rfl
      · exact ⟨h.1, ahead_tr h.2 hbc⟩
      · exact ⟨hPb, hbc⟩⟩)
theorem c_isOpenOf {S : St} {a : RS} {ob i : Nat} (h : CR S a ob) (hi : i < aL a) {k : Int32} {post : Int32 → St → Prop} (h1 : sT a i = 0 ∧ qi a 17 i = k → post 1 S) (h0 : ¬ (sT a i = 0 ∧ qi a 17 i = k) → post 0 S) : wp_X5_isOpenOf i k S post := by
  have e := (h.2.1 i hi).2.2.2.2.2.1
  have e1 := (h.2.1 i hi).2.2.1
  unfold wp_X5_isOpenOf
  rw [e, e1]
  simp only [Option.some.injEq]
  exact ⟨fun c => h0 (fun q => c q.1), fun c => ⟨fun c2 => h0 (fun q => c2 q.2), fun c2 => h1 ⟨c, c2⟩⟩⟩
theorem c_goesBefore {S : St} {a : RS} {ob i j : Nat} (h : CR S a ob) (hk : OkC a) (hi : i < aL a) (hj : j < aL a) {post : Int32 → St → Prop} (h1 : ahead (qj a 18) i j → post 1 S) (h0 : ¬ ahead (qj a 18) i j → post 0 S) : wp_X5_goesBefore i j S post := by
  have hL := hk.2.1
  have e1 := (h.2.1 i hi).2.2.2.1
  have e2 := (h.2.1 j hj).2.2.2.1
  have n1 := (h.2.1 i hi).2.1
  have n2 := (h.2.1 j hj).2.1
  unfold wp_X5_goesBefore
  rw [e1, e2, n1, n2, nI_leI (by omega) (by omega)]
  refine ⟨fun c => h1 (Or.inl c), fun c => ⟨fun c2 => h0 (fun q => q.elim c (fun z => c2 z.1)), fun c2 => ⟨fun c3 => h0 (fun q => q.elim c (fun z => by omega)), fun c3 => h1 (Or.inr ⟨c2, by omega⟩)⟩⟩⟩
theorem c_lotsAhead {S : St} {a : RS} {ob i : Nat} (h : CR S a ob) (hk : OkC a) (hi : i < aL a) {k : Int32} (hki : qi a 17 i = k) {post : Int32 → St → Prop} (hp : post (nI (rankO (fun j => sT a j = 0 ∧ qi a 17 j = k) (qj a 18) (aL a) i)) S) : wp_X8_lotsAhead i S post := by
  have hL := hk.2.1
  have g6 : gi S 7 0 6 = nI (aL a) := h.1.1.trans hk.1
  refine ⟨aL a + 1, ?_⟩
  have key : ∀ d j, j + d = aL a → lp_X8_lotsAhead_4 i post (d + 1) (nI j) (nI (cnt (fun j => (sT a j = 0 ∧ qi a 17 j = k) ∧ ahead (qj a 18) j i) j)) S := by
    intro d
    induction d with
    | zero =>
      intro j hj
      have hj : j = aL a := by omega
      subst hj
      exact ⟨fun _ => hp, fun c => absurd (by rw [g6]; exact Int32.le_refl _) c⟩
    | succ d ih =>
      intro j hj
      have hlt : j < aL a := by omega
      have ih := ih (j + 1) (by omega)
      simp only [cnt] at ih
      refine ⟨fun c => absurd (g6 ▸ c) (nI_ge hlt (by omega)), fun _ => ?_⟩
      refine c_lotAtI h hk hlt ?_
      refine ⟨fun c => (by cases c), fun j2 e => ?_⟩
      cases e
      rw [(h.2.1 i hi).2.2.1, hki]
      refine c_isOpenOf h hlt (fun ho => ?_) (fun ho => ?_)
      · refine ⟨fun c => absurd c (by decide), fun _ => ?_⟩
        refine c_goesBefore h hk hlt hi (fun ha => ?_) (fun ha => ?_)
        · refine ⟨fun c => absurd c (by decide), fun _ v hv w hw => ?_⟩
          rw [if_pos ⟨ho, ha⟩] at ih
          subst hv; subst hw
          rw [nI_1, nI_1]; exact ih
        · refine ⟨fun _ v hv => ?_, fun c => absurd rfl c⟩
          rw [if_neg (fun q => ha q.2)] at ih
          subst hv
          rw [nI_1]; exact ih
      · refine ⟨fun _ v hv => ?_, fun c => absurd rfl c⟩
        rw [if_neg (fun q => ho q.1)] at ih
        subst hv
        rw [nI_1]; exact ih
  exact key (aL a) 0 (by omega)
theorem c_order {S : St} {a : RS} {ob : Nat} (h : CR S a ob) (hk : OkC a) {k : Int32} {m : Nat} (hm : m < 2 ^ 31) {post : Int32 → St → Prop} {r : Int32} (hp : post r S)
    (hr : (∃ i, i < aL a ∧ (sT a i = 0 ∧ qi a 17 i = k) ∧ rankO (fun j => sT a j = 0 ∧ qi a 17 j = k) (qj a 18) (aL a) i = m ∧ r = nI i) ∨ ((∀ i, i < aL a → (sT a i = 0 ∧ qi a 17 i = k) → rankO (fun j => sT a j = 0 ∧ qi a 17 j = k) (qj a 18) (aL a) i ≠ m) ∧ r = -1)) : wp_X8_order k (nI m) S post := by
  have hL := hk.2.1
  have g6 : gi S 7 0 6 = nI (aL a) := h.1.1.trans hk.1
  refine ⟨fun _ => ⟨aL a + 1, ?_⟩, fun c => absurd (nI_pos' hm) c⟩
  have key : ∀ d j, j + d = aL a → (∀ i, i < j → (sT a i = 0 ∧ qi a 17 i = k) → rankO (fun j => sT a j = 0 ∧ qi a 17 j = k) (qj a 18) (aL a) i ≠ m) → lp_X8_order_8 k (nI m) post (d + 1) (nI j) S := by
    intro d
    induction d with
    | zero =>
      intro j hj hno
      have hj : j = aL a := by omega
      subst hj
      refine ⟨fun _ => ?_, fun c => absurd (by rw [g6]; exact Int32.le_refl _) c⟩
      rcases hr with ⟨i, hi, h1, h2, -⟩ | ⟨-, e⟩
      · exact absurd h2 (hno i hi h1)
      · rw [← e]; exact hp
    | succ d ih =>
      intro j hj hno
      have hlt : j < aL a := by omega
      have go : (¬ ((sT a j = 0 ∧ qi a 17 j = k) ∧ rankO (fun j => sT a j = 0 ∧ qi a 17 j = k) (qj a 18) (aL a) j = m)) → lp_X8_order_8 k (nI m) post (d + 1) (nI (j + 1)) S := fun hn => ih (j + 1) (by omega) (fun i hi h1 h2 => by
        by_cases e : i = j
        · subst e; exact hn ⟨h1, h2⟩
        · exact hno i (by omega) h1 h2)
      refine ⟨fun c => absurd (g6 ▸ c) (nI_ge hlt (by omega)), fun _ => ?_⟩
      refine c_lotAtI h hk hlt ?_
      refine ⟨fun c => (by cases c), fun j2 e => ?_⟩
      cases e
      refine c_isOpenOf h hlt (fun ho => ?_) (fun ho => ?_)
      · refine ⟨fun c => absurd c (by decide), fun _ => ?_⟩
        refine c_lotsAhead h hk hlt ho.2 ?_
        have hb := rank_bd (P := fun j => sT a j = 0 ∧ qi a 17 j = k) (g := qj a 18) hlt ho
        refine ⟨fun c v hv => ?_, fun c => ?_⟩
        · subst hv
          rw [nI_1]
          exact go (fun q => c (by rw [q.2]))
        · have hm2 := (nI_eq (by omega) hm).mp c
          rcases hr with ⟨i, hi, h1, h2, e⟩ | ⟨h1, -⟩
          · have := rank_inj (P := fun j => sT a j = 0 ∧ qi a 17 j = k) (g := qj a 18) hi hlt h1 ho (h2.trans hm2.symm)
            subst this
            rw [← e]; exact hp
          · exact absurd hm2 (h1 j hlt ho)
      · refine ⟨fun _ v hv => ?_, fun c => absurd rfl c⟩
        subst hv
        rw [nI_1]
        exact go (fun q => ho q.1)
  exact key (aL a) 0 (by omega) (fun i hi => by omega)
theorem nI_nm1 {n : Nat} (h : n < 2 ^ 31) : ¬ nI n = -1 := fun e => nI_pos h (by rw [e]; decide)
def bI (b : Option Nat) : Int32 := match b with
  | none => -1
  | some c => nI c
def selO (P B : Nat → Prop) (g : Nat → Int64) (x : Nat) (b : Option Nat) : Prop := match b with
  | none => ∀ j, j < x → P j → ¬ B j
  | some c => c < x ∧ P c ∧ B c ∧ ∀ j, j < x → P j → B j → j ≠ c → ahead g c j
theorem r_orderIn {S : St} (hk : Ok (pr S)) {k x4 : Int32} {bf : Option Nat} (hbf : ∀ b, bf = some b → b < aL (pr S)) {K11 : Int32 → Int32 → St → Prop} {post : Int32 → St → Prop} {P B : Nat → Prop} (hP : ∀ j, P j ↔ (sT (pr S) j = 0 ∧ qi (pr S) 17 j = k)) (hB : ∀ j, B j ↔ ∀ b, bf = some b → ahead (qj (pr S) 18) b j)
    (h1 : ∀ c, selO P B (qj (pr S) 18) (aL (pr S)) (some c) → K11 (x4 + 1) (nI c) S) (h0 : selO P B (qj (pr S) 18) (aL (pr S)) none → post (-1) S) : ∀ d x b, x + d = aL (pr S) → selO P B (qj (pr S) 18) x b → lp_X9_order_23 k x4 (bI bf) K11 post (d + 1) (nI x) (bI b) S := by
  have hL := hk.1.2.1
  have g0 : gi S 8 0 0 = nI (aL (pr S)) := (gi_pr rfl).trans hk.1.1
  intro d
  induction d with
  | zero =>
    intro x b hx hs
    have hx : x = aL (pr S) := by omega
    subst hx
    refine ⟨fun _ => ?_, fun c => absurd (by rw [g0]; exact Int32.le_refl _) c⟩
    cases b with
    | none => exact ⟨fun c => absurd rfl c, fun _ => h0 hs⟩
    | some c => exact ⟨fun _ v hv => by rw [hv]; exact h1 c hs, fun e => absurd e (nI_nm1 (by have := hs.1; omega))⟩
  | succ d ih =>
    intro x b hx hs
    have hlt : x < aL (pr S) := by omega
    have hin : vp_in (nI x) 60 := vp_in_nI (by omega) (by omega)
    have e17 : gi S 17 0 x = qi (pr S) 17 x := gi_pr rfl
    have e18 : ∀ j, gj S 18 0 j = qj (pr S) 18 j := fun j => gj_pr rfl
    have e20 : gi S 20 0 x = 0 ↔ sT (pr S) x = 0 := by rw [show gi S 20 0 x = qi (pr S) 20 x from gi_pr rfl]; exact st_eq (k := 0) hk.2.1 hlt (by omega)
    have nx1 : (P x ∧ B x ∧ ∀ c, b = some c → ¬ qj (pr S) 18 x ≤ qj (pr S) 18 c) → ∀ v, v = nI x + 1 → lp_X9_order_23 k x4 (bI bf) K11 post (d + 1) v (nI x) S := by
      rintro ⟨hp, hb, hc⟩ v rfl
      rw [nI_1]
      refine ih (x + 1) (some x) (by omega) ⟨by omega, hp, hb, fun j hj hpj hbj hne => ?_⟩
      have hjx : j < x := by omega
      cases b with
      | none => exact absurd hbj (hs j hjx hpj)
      | some c =>
        have hxc : ahead (qj (pr S) 18) x c := Or.inl (Int64.not_le.mp (hc c rfl))
        by_cases e : j = c
        · rw [e]; exact hxc
        · exact ahead_tr hxc (hs.2.2.2 j hjx hpj hbj e)
    have nx0 : ¬ (P x ∧ B x ∧ ∀ c, b = some c → ¬ qj (pr S) 18 x ≤ qj (pr S) 18 c) → ∀ v, v = nI x + 1 → lp_X9_order_23 k x4 (bI bf) K11 post (d + 1) v (bI b) S := by
      rintro hn v rfl
      rw [nI_1]
      refine ih (x + 1) b (by omega) ?_
      cases b with
      | none =>
        intro j hj hpj hbj
        by_cases e : j = x
        · subst e; exact hn ⟨hpj, hbj, fun c hc => by cases hc⟩
        · exact hs j (by omega) hpj hbj
      | some c =>
        refine ⟨by have := hs.1; omega, hs.2.1, hs.2.2.1, fun j hj hpj hbj hne => ?_⟩
        by_cases e : j = x
        · subst e
          have hle : qj (pr S) 18 j ≤ qj (pr S) 18 c := by
            by_cases q : qj (pr S) 18 j ≤ qj (pr S) 18 c
            · exact q
            · exact absurd ⟨hpj, hbj, fun c2 hc2 => by cases hc2; exact q⟩ hn
          have := hs.1
          rcases Int64.lt_or_eq_of_le hle with q | q
          · exact Or.inl q
          · exact Or.inr ⟨q.symm, this⟩
        · exact hs.2.2.2 j (by omega) hpj hbj hne
    have tl : ∀ z : Int32, (z = 1 ∧ B x) ∨ (z = 0 ∧ ¬ B x) → vp_in (nI x) 60 ∧
      (¬ gi S 20 0 x = 0 → ∀ v5 : Int32, v5 = nI x + 1 → lp_X9_order_23 k x4 (bI bf) K11 post (d + 1) v5 (bI b) S) ∧
      (gi S 20 0 x = 0 → vp_in (nI x) 60 ∧
        (¬ gi S 17 0 x = k → ∀ v5 : Int32, v5 = nI x + 1 → lp_X9_order_23 k x4 (bI bf) K11 post (d + 1) v5 (bI b) S) ∧
        (gi S 17 0 x = k →
          (z = 0 → ∀ v5 : Int32, v5 = nI x + 1 → lp_X9_order_23 k x4 (bI bf) K11 post (d + 1) v5 (bI b) S) ∧
          (¬ z = 0 →
            (bI b = -1 → ∀ v5 : Int32, v5 = nI x + 1 → lp_X9_order_23 k x4 (bI bf) K11 post (d + 1) v5 (nI x) S) ∧
            (¬ bI b = -1 → vp_in (nI x) 60 ∧ vp_in (bI b) 60 ∧
              (gj S 18 0 x ≤ gj S 18 0 (bI b).toNatClampNeg → ∀ v5 : Int32, v5 = nI x + 1 → lp_X9_order_23 k x4 (bI bf) K11 post (d + 1) v5 (bI b) S) ∧
              (¬ gj S 18 0 x ≤ gj S 18 0 (bI b).toNatClampNeg → ∀ v5 : Int32, v5 = nI x + 1 → lp_X9_order_23 k x4 (bI bf) K11 post (d + 1) v5 (nI x) S))))) := by
      intro z hz
      rw [e20, e17]
      refine ⟨hin, fun c => nx0 (fun q => c ((hP x).mp q.1).1), fun c => ⟨hin, fun c2 => nx0 (fun q => c2 ((hP x).mp q.1).2), fun c2 => ⟨fun c3 => nx0 (fun q => ?_), fun c3 => ?_⟩⟩⟩
      · rcases hz with ⟨rfl, -⟩ | ⟨-, h⟩
        · exact absurd c3 (by decide)
        · exact h q.2.1
      · have hbx : B x := by
          rcases hz with ⟨-, h⟩ | ⟨h, -⟩
          · exact h
          · exact absurd h c3
        have hpx : P x := (hP x).mpr ⟨c, c2⟩
        cases b with
        | none => exact ⟨fun _ => nx1 ⟨hpx, hbx, fun c hc => by cases hc⟩, fun q => absurd rfl q⟩
        | some y =>
          have hy : y < 60 := by have := hs.1; omega
          have ey : (bI (some y)).toNatClampNeg = y := nI_clamp (by omega)
          rw [ey, e18, e18]
          exact ⟨fun q => absurd q (nI_nm1 (by omega)), fun _ => ⟨hin, vp_in_nI hy (by omega), fun q => nx0 (fun w => w.2.2 y rfl q), fun q => nx1 ⟨hpx, hbx, fun c3 hc3 => by cases hc3; exact q⟩⟩⟩
    refine ⟨fun c => absurd (g0 ▸ c) (nI_ge hlt (by omega)), fun _ => ?_⟩
    rw [show (nI x).toNatClampNeg = x from nI_clamp (by omega)]
    cases bf with
    | none => exact ⟨fun _ => tl 1 (Or.inl ⟨rfl, (hB x).mpr fun b hb => by cases hb⟩), fun c => absurd rfl c⟩
    | some y =>
      have hy := hbf y rfl
      have ey : (bI (some y)).toNatClampNeg = y := nI_clamp (by omega)
      have hiny : vp_in (bI (some y)) 60 := vp_in_nI (by omega) (by omega)
      have hBx : B x ↔ ahead (qj (pr S) 18) y x := (hB x).trans ⟨fun h => h y rfl, fun h b hb => by cases hb; exact h⟩
      refine ⟨fun c => absurd c (nI_nm1 (by omega)), fun _ => ⟨hin, hiny, ?_⟩⟩
      rw [ey, show nI x ≤ bI (some y) ↔ x ≤ y from nI_leI (by omega) (by omega)]
      refine ⟨fun c => tl 1 (Or.inl ⟨rfl, hBx.mpr (Or.inl (by rw [e18, e18] at c; exact c))⟩), fun c => ⟨hin, hiny, fun c2 => tl 0 (Or.inr ⟨rfl, fun q => ?_⟩), fun c2 => ⟨fun c3 => tl 0 (Or.inr ⟨rfl, fun q => ?_⟩), fun c3 => tl 1 (Or.inl ⟨rfl, hBx.mpr (Or.inr ⟨by rw [e18, e18] at c2; exact c2.symm, by omega⟩)⟩)⟩⟩⟩
      · rw [e18, e18] at c c2
        rcases hBx.mp q with q | q
        · exact c q
        · exact c2 q.1.symm
      · rw [e18, e18] at c c2
        rcases hBx.mp q with q | q
        · exact c q
        · omega
theorem r_order {S : St} (hk : Ok (pr S)) {k : Int32} {m : Nat} (hm : m < 2 ^ 31) {post : Int32 → St → Prop} {r : Int32} (hp : post r S)
    (hr : (∃ i, i < aL (pr S) ∧ (sT (pr S) i = 0 ∧ qi (pr S) 17 i = k) ∧ rankO (fun j => sT (pr S) j = 0 ∧ qi (pr S) 17 j = k) (qj (pr S) 18) (aL (pr S)) i = m ∧ r = nI i) ∨ ((∀ i, i < aL (pr S) → (sT (pr S) i = 0 ∧ qi (pr S) 17 i = k) → rankO (fun j => sT (pr S) j = 0 ∧ qi (pr S) 17 j = k) (qj (pr S) 18) (aL (pr S)) i ≠ m) ∧ r = -1)) : wp_X9_order k (nI m) S post := by
  have hL := hk.1.2.1
  refine ⟨fun _ => ⟨aL (pr S) + 2, ?_⟩, fun c => absurd (nI_pos' hm) c⟩
  generalize hPe : (fun j => sT (pr S) j = 0 ∧ qi (pr S) 17 j = k) = P at hr
  have hP : ∀ j, P j ↔ (sT (pr S) j = 0 ∧ qi (pr S) 17 j = k) := fun j => by rw [← hPe]
  have key : ∀ d n (bf : Option Nat), n + d = aL (pr S) + 1 → n ≤ m + 1 → (match bf with | none => n = 0 | some b => b < aL (pr S) ∧ P b ∧ n = rankO P (qj (pr S) 18) (aL (pr S)) b + 1) → lp_X9_order_11 k (nI m) post (d + 1) (nI n) (bI bf) S := by
    intro d
    induction d with
    | zero =>
      intro n bf hn hnm hb
      cases bf with
      | none => have : n = 0 := hb; omega
      | some b =>
        have := rank_bd (g := qj (pr S) 18) hb.1 hb.2.1
        have := hb.2.2
        omega
    | succ d ih =>
      intro n bf hn hnm hb
      have hbf : ∀ b, bf = some b → b < aL (pr S) ∧ P b := fun b e => by subst e; exact ⟨hb.1, hb.2.1⟩
      refine ⟨fun c => ?_, fun c => ⟨aL (pr S) + 1, ?_⟩⟩
      · have hmn : m < n := (nI_ltI hm (by omega)).mp c
        have hn2 : n = m + 1 := by omega
        cases bf with
        | none => have : n = 0 := hb; omega
        | some b =>
          have hrk := hb.2.2
          rcases hr with ⟨i, hi, h1, h2, e⟩ | ⟨h1, -⟩
          · have := rank_inj (P := P) (g := qj (pr S) 18) hi hb.1 ((hP i).mpr h1) hb.2.1 (by omega)
            subst this
            rw [show bI (some i) = r from e.symm]; exact hp
          · exact absurd (by omega) (h1 b hb.1 ((hP b).mp hb.2.1))
      · have hmn : n ≤ m := by
          rcases Nat.lt_or_ge m n with q | q
          · exact absurd (nI_lt q (by omega)) c
          · exact q
        refine r_orderIn hk (bf := bf) (P := P) (B := fun j => ∀ b, bf = some b → ahead (qj (pr S) 18) b j) (fun b e => (hbf b e).1) hP (fun j => Iff.rfl) (fun c hs => ?_) (fun hs => ?_) (aL (pr S)) 0 none (by omega) (fun j hj => by omega)
        · have hrk := rank_next (P := P) (g := qj (pr S) 18) (n := aL (pr S)) (B := fun j => ∀ b, bf = some b → ahead (qj (pr S) 18) b j) bf hbf (fun j => Iff.rfl) hs.1 hs.2.1 hs.2.2.1 hs.2.2.2
          have hrk2 : rankO P (qj (pr S) 18) (aL (pr S)) c = n := by
            cases bf with
            | none => rw [hrk]; exact hb.symm
            | some b => rw [hrk]; exact hb.2.2.symm
          rw [nI_1]
          exact ih (n + 1) (some c) (by omega) (by omega) ⟨hs.1, hs.2.1, by omega⟩
        · have hno : ∀ i, i < aL (pr S) → P i → rankO P (qj (pr S) 18) (aL (pr S)) i ≠ m := by
            intro i hi hPi e
            have hnb := hs i hi hPi
            cases bf with
            | none => exact hnb (fun b hb => by cases hb)
            | some b =>
              have h3 : n = rankO P (qj (pr S) 18) (aL (pr S)) b + 1 := hb.2.2
              by_cases q : i = b
              · subst q; omega
              · rcases ahead_tot (g := qj (pr S) 18) q with z | z
                · have := rank_lt (n := aL (pr S)) hi hPi z
                  omega
                · exact hnb (fun b2 hb2 => by cases hb2; exact z)
          rcases hr with ⟨i, hi, h1, h2, -⟩ | ⟨-, e⟩
          · exact absurd h2 (hno i hi ((hP i).mpr h1))
          · rw [← e]; exact hp
  exact key (aL (pr S) + 1) 0 none (by omega) (by omega) rfl
theorem b_order {S : St} (hI : Inv S) (k p : Int32) : Both (wp_X8_order k p) (wp_X9_order k p) S := by
  obtain ⟨ob, h, hk⟩ := id hI
  by_cases hp0 : 0 ≤ p
  · obtain ⟨m, hm, rfl⟩ := nI_of (Int32.not_lt.mpr hp0)
    by_cases hex : ∃ i, i < aL (pr S) ∧ (sT (pr S) i = 0 ∧ qi (pr S) 17 i = k) ∧ rankO (fun j => sT (pr S) j = 0 ∧ qi (pr S) 17 j = k) (qj (pr S) 18) (aL (pr S)) i = m
    · obtain ⟨i, h1, h2, h3⟩ := hex
      exact Both.ro hI (nI i) (fun post hp => c_order h hk.1 hm hp (Or.inl ⟨i, h1, h2, h3, rfl⟩)) (fun post hp => r_order hk hm hp (Or.inl ⟨i, h1, h2, h3, rfl⟩))
    · have hno : ∀ i, i < aL (pr S) → (sT (pr S) i = 0 ∧ qi (pr S) 17 i = k) → rankO (fun j => sT (pr S) j = 0 ∧ qi (pr S) 17 j = k) (qj (pr S) 18) (aL (pr S)) i ≠ m := fun i h1 h2 h3 => hex ⟨i, h1, h2, h3⟩
      exact Both.ro hI (-1) (fun post hp => c_order h hk.1 hm hp (Or.inr ⟨hno, rfl⟩)) (fun post hp => r_order hk hm hp (Or.inr ⟨hno, rfl⟩))
  · exact Both.ro hI (-1) (fun post hp => ⟨fun c => absurd c hp0, fun _ => hp⟩) (fun post hp => ⟨fun c => absurd c hp0, fun _ => hp⟩)
