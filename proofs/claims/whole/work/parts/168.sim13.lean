/-! ===== play ===== -/
def SimU (w8 w9 : St → (St → Prop) → Prop) (a : RS) : Prop := ∃ a2, Ok a2 ∧ (∀ S ob, CR S a ob → ∃ S1, (∀ post : St → Prop, post S1 → w8 S post) ∧ CR S1 a2 ob ∧ PR S S1) ∧ (∀ S, pr S = a → ∃ S2, (∀ post : St → Prop, post S2 → w9 S post) ∧ pr S2 = a2 ∧ CS S S2)
theorem Sim.u {ρ : Type} {w8 w9 : St → (ρ → St → Prop) → Prop} {u8 u9 : St → (St → Prop) → Prop} {a : RS} (h : Sim w8 w9 a) (h8 : ∀ S post, w8 S (fun _ S1 => post S1) → u8 S post) (h9 : ∀ S post, w9 S (fun _ S1 => post S1) → u9 S post) : SimU u8 u9 a := by
  obtain ⟨r, a2, k2, p8, p9⟩ := h
  refine ⟨a2, k2, fun S ob hc => ?_, fun S hS => ?_⟩
  · obtain ⟨S1, q1, c1, r1⟩ := p8 S ob hc
    exact ⟨S1, fun post hp => h8 S post (q1 _ hp), c1, r1⟩
  · obtain ⟨S1, q1, c1, r1⟩ := p9 S hS
    exact ⟨S1, fun post hp => h9 S post (q1 _ hp), c1, r1⟩
theorem s_turn (n : Int64) {a : RS} (hk : Ok a) : SimU (wp_X8_playTurn n) (wp_X9_turn n) a := by
  have d0 : ∀ w : Int32, w.toInt = 0 ↔ w = 0 := fun w => toInt_eq (n := 0)
  have d1 : ∀ w : Int32, w.toInt = 1 ↔ w = 1 := fun w => toInt_eq (n := 1)
  have d2 : ∀ w : Int32, w.toInt = 2 ↔ w = 2 := fun w => toInt_eq (n := 2)
  have d3 : ∀ w : Int32, w.toInt = 3 ↔ w = 3 := fun w => toInt_eq (n := 3)
  have d4 : ∀ w : Int32, w.toInt = 4 ↔ w = 4 := fun w => toInt_eq (n := 4)
  obtain ⟨i, hi⟩ : ∃ i, i = ((n / (6 : Int64)) - (n / (6 : Int64)) / (64 : Int64) * (64 : Int64)).toInt32 := ⟨_, rfl⟩
  obtain ⟨v, hv⟩ : ∃ v, v = (n / (384 : Int64)) - (n / (384 : Int64)) / (100000 : Int64) * (100000 : Int64) := ⟨_, rfl⟩
  obtain ⟨r, hr⟩ : ∃ r, r = (n - n / (6 : Int64) * (6 : Int64)).toInt32 := ⟨_, rfl⟩
  rcases (show (r.toInt < 0 ∨ 4 < r.toInt) ∨ r.toInt = 0 ∨ r.toInt = 1 ∨ r.toInt = 2 ∨ r.toInt = 3 ∨ r.toInt = 4 by omega) with c | c | c | c | c | c
  · refine (s_again i hk).u (fun S post h => ?_) (fun S post h => ?_)
    · intro v1 e1 v2 e2
      rw [← hi] at e1; rw [← hv] at e2; rw [← hr]
      subst e1; subst e2
      exact ⟨fun _ => h, fun q => by omega, fun q => by omega, fun q => by omega, fun q => by omega, fun q => by omega⟩
    · intro v1 e1 v2 e2 v3 e3
      rw [← hi] at e1; rw [← hv] at e2; rw [← hr] at e3
      subst e1; subst e2; subst e3
      exact ⟨fun _ => ⟨fun _ => ⟨fun _ => ⟨fun _ => ⟨fun _ => h, fun q => by have := (d4 _).mpr q; omega⟩, fun q => by have := (d3 _).mpr q; omega⟩, fun q => by have := (d2 _).mpr q; omega⟩, fun q => by have := (d1 _).mpr q; omega⟩, fun q => by have := (d0 _).mpr q; omega⟩
  · have cr := (d0 r).mp c
    refine (s_press (i - i / (32 : Int32) * (32 : Int32)) (v - v / (3000 : Int64) * (3000 : Int64)) hk).u (fun S post h => ?_) (fun S post h => ?_)
    · intro v1 e1 v2 e2
      rw [← hi] at e1; rw [← hv] at e2; rw [← hr]
      subst e1; subst e2
      exact ⟨fun q => by omega, fun _ => h, fun q => by omega, fun q => by omega, fun q => by omega, fun q => by omega⟩
    · intro v1 e1 v2 e2 v3 e3
      rw [← hi] at e1; rw [← hv] at e2; rw [← hr] at e3
      subst e1; subst e2; subst e3
      exact ⟨fun q => absurd cr q, fun _ => h⟩
  · have cr := (d1 r).mp c
    refine (s_tick ((1 : Int64) + (v - v / (500 : Int64) * (500 : Int64))) hk).u (fun S post h => ?_) (fun S post h => ?_)
    · intro v1 e1 v2 e2
      rw [← hi] at e1; rw [← hv] at e2; rw [← hr]
      subst e1; subst e2
      exact ⟨fun q => by omega, fun q => by omega, fun _ => h, fun q => by omega, fun q => by omega, fun q => by omega⟩
    · intro v1 e1 v2 e2 v3 e3
      rw [← hi] at e1; rw [← hv] at e2; rw [← hr] at e3
      subst e1; subst e2; subst e3
      exact ⟨fun _ => ⟨fun q => absurd cr q, fun _ => h⟩, fun q => by have := (d0 _).mpr q; omega⟩
  · have cr := (d2 r).mp c
    refine (s_start i v ((1 : Int64) + ((v - v / (97 : Int64) * (97 : Int64)) * (5 : Int64))) hk).u (fun S post h => ?_) (fun S post h => ?_)
    · intro v1 e1 v2 e2
      rw [← hi] at e1; rw [← hv] at e2; rw [← hr]
      subst e1; subst e2
      exact ⟨fun q => by omega, fun q => by omega, fun q => by omega, fun _ => h, fun q => by omega, fun q => by omega⟩
    · intro v1 e1 v2 e2 v3 e3
      rw [← hi] at e1; rw [← hv] at e2; rw [← hr] at e3
      subst e1; subst e2; subst e3
      exact ⟨fun _ => ⟨fun _ => ⟨fun q => absurd cr q, fun _ => h⟩, fun q => by have := (d1 _).mpr q; omega⟩, fun q => by have := (d0 _).mpr q; omega⟩
  · have cr := (d3 r).mp c
    refine (s_rise i ((v - v / (32 : Int64) * (32 : Int64)).toInt32) v hk).u (fun S post h => ?_) (fun S post h => ?_)
    · intro v1 e1 v2 e2
      rw [← hi] at e1; rw [← hv] at e2; rw [← hr]
      subst e1; subst e2
      exact ⟨fun q => by omega, fun q => by omega, fun q => by omega, fun q => by omega, fun _ => h, fun q => by omega⟩
    · intro v1 e1 v2 e2 v3 e3
      rw [← hi] at e1; rw [← hv] at e2; rw [← hr] at e3
      subst e1; subst e2; subst e3
      exact ⟨fun _ => ⟨fun _ => ⟨fun _ => ⟨fun q => absurd cr q, fun _ => h⟩, fun q => by have := (d2 _).mpr q; omega⟩, fun q => by have := (d1 _).mpr q; omega⟩, fun q => by have := (d0 _).mpr q; omega⟩
  · have cr := (d4 r).mp c
    have fin8 : ∀ S post, wp_X8_outage (0 : Int64) (1 : Int32) S (fun r14 S13 => (¬ r14 = 0 → post S13) ∧ (r14 = 0 → wp_X8_outage (0 : Int64) (0 : Int32) S13 (fun r16 S15 => post S15))) → wp_X8_playTurn n S post := by
      intro S post h
      intro v1 e1 v2 e2
      rw [← hr]
      exact ⟨fun q => by omega, fun q => by omega, fun q => by omega, fun q => by omega, fun q => by omega, fun _ => h⟩
    have fin9 : ∀ S post, wp_X9_outage (0 : Int64) (1 : Int32) S (fun r7 S6 => (¬ r7 = 0 → post S6) ∧ (r7 = 0 → wp_X9_outage (0 : Int64) (0 : Int32) S6 (fun r9 S8 => (r9 = 0 → post S8) ∧ (¬ r9 = 0 → post S8)))) → wp_X9_turn n S post := by
      intro S post h
      intro v1 e1 v2 e2 v3 e3
      rw [← hr] at e3
      subst e3
      exact ⟨fun _ => ⟨fun _ => ⟨fun _ => ⟨fun _ => ⟨fun q => absurd cr q, fun _ => h⟩, fun q => by have := (d3 _).mpr q; omega⟩, fun q => by have := (d2 _).mpr q; omega⟩, fun q => by have := (d1 _).mpr q; omega⟩, fun q => by have := (d0 _).mpr q; omega⟩
    obtain ⟨x, a2, k2, p8, p9⟩ := s_outage (0 : Int64) (1 : Int32) (Or.inr rfl) hk
    by_cases hx : x = 0
    · obtain ⟨x3, a3, k3, q8, q9⟩ := s_outage (0 : Int64) (0 : Int32) (Or.inl rfl) k2
      refine ⟨a3, k3, fun S ob hc => ?_, fun S hS => ?_⟩
      · obtain ⟨S1, w1, c1, r1⟩ := p8 S ob hc
        obtain ⟨S2, w2, c2, r2⟩ := q8 S1 ob c1
        exact ⟨S2, fun post hp => fin8 S post (w1 _ ⟨fun q => absurd hx q, fun _ => w2 _ hp⟩), c2, r1.trans r2⟩
      · obtain ⟨S1, w1, c1, r1⟩ := p9 S hS
        obtain ⟨S2, w2, c2, r2⟩ := q9 S1 c1
        exact ⟨S2, fun post hp => fin9 S post (w1 _ ⟨fun q => absurd hx q, fun _ => w2 _ ⟨fun _ => hp, fun _ => hp⟩⟩), c2, r1.trans r2⟩
    · refine ⟨a2, k2, fun S ob hc => ?_, fun S hS => ?_⟩
      · obtain ⟨S1, w1, c1, r1⟩ := p8 S ob hc
        exact ⟨S1, fun post hp => fin8 S post (w1 _ ⟨fun _ => hp, fun q => absurd q hx⟩), c1, r1⟩
      · obtain ⟨S1, w1, c1, r1⟩ := p9 S hS
        exact ⟨S1, fun post hp => fin9 S post (w1 _ ⟨fun _ => hp, fun q => absurd q hx⟩), c1, r1⟩
def cntS (a : RS) : Nat → Nat
  | 0 => 0
  | n + 1 => cntS a n + (if sT a n = 3 then 1 else 0)
theorem cntS_t {a : RS} {n : Nat} (h : sT a n = 3) : cntS a (n + 1) = cntS a n + 1 := by simp only [cntS]; rw [if_pos h]
theorem cntS_f {a : RS} {n : Nat} (h : ¬ sT a n = 3) : cntS a (n + 1) = cntS a n := by simp only [cntS]; rw [if_neg h]; rfl
theorem c_soldCount {S : St} {a : RS} {ob : Nat} (h : CR S a ob) (hk : OkC a) {post : Int32 → St → Prop} (hp : post (nI (cntS a (aL a))) S) : wp_X8_soldCount S post := by
  have hL := hk.2.1
  have g6 : gi S 7 0 6 = nI (aL a) := h.1.1.trans hk.1
  refine ⟨aL a + 1, ?_⟩
  have key : ∀ d i, i + d = aL a → lp_X8_soldCount_4 post (d + 1) (nI i) (nI (cntS a i)) S := by
    intro d
    induction d with
    | zero =>
      intro i hi
      have hi : i = aL a := by omega
      subst hi
      exact ⟨fun _ => hp, fun c => absurd (by rw [g6]; exact Int32.le_refl _) c⟩
    | succ d ih =>
      intro i hi
      have hlt : i < aL a := by omega
      have nx := ih (i + 1) (by omega)
      refine ⟨fun c => absurd (g6 ▸ c) (nI_ge hlt (by omega)), fun _ => c_lotAtI h hk hlt ⟨fun c => (by cases c), fun j e => ?_⟩⟩
      cases e
      rw [(h.2.1 i hlt).2.2.2.2.2.1]
      refine ⟨fun c v ev => ?_, fun c v8 e8 v ev => ?_⟩
      · rw [cntS_f (fun q => c (by rw [q]))] at nx
        rw [ev, nI_1]; exact nx
      · rw [cntS_t (Option.some.inj c)] at nx
        rw [ev, nI_1, e8, nI_1]; exact nx
  exact key (aL a) 0 (by omega)
theorem r_soldCount {S : St} (hk : OkC (pr S)) (hl : OkL (pr S)) {post : Int32 → St → Prop} (hp : post (nI (cntS (pr S) (aL (pr S)))) S) : ∃ n, lp_X9_play_88 post n 0 0 S := by
  have hL := hk.2.1
  have g0 : gi S 8 0 0 = nI (aL (pr S)) := (gi_pr rfl).trans hk.1
  refine ⟨aL (pr S) + 1, ?_⟩
  have key : ∀ d i, i + d = aL (pr S) → lp_X9_play_88 post (d + 1) (nI i) (nI (cntS (pr S) i)) S := by
    intro d
    induction d with
    | zero =>
      intro i hi
      have hi : i = aL (pr S) := by omega
      subst hi
      exact ⟨fun _ => hp, fun c => absurd (by rw [g0]; exact Int32.le_refl _) c⟩
    | succ d ih =>
      intro i hi
      have hlt : i < aL (pr S) := by omega
      have nx := ih (i + 1) (by omega)
      have e3 := st_eq (k := 3) hl hlt (by omega)
      refine ⟨fun c => absurd (g0 ▸ c) (nI_ge hlt (by omega)), fun _ => ⟨vp_in_nI (by omega) (by omega), ?_⟩⟩
      rw [nI_clamp (by omega), show gi S 20 0 i = qi (pr S) 20 i from gi_pr rfl]
      refine ⟨fun c v4 e4 v ev => ?_, fun c v8 e8 v ev => ?_⟩
      · rw [cntS_f (fun q => c (e3.mpr q))] at nx
        have : v4 = nI (cntS (pr S) i) := by rw [e4]; grind
        rw [ev, nI_1, this]; exact nx
      · rw [cntS_t (e3.mp c)] at nx
        rw [ev, nI_1, e8, nI_1]; exact nx
  exact key (aL (pr S)) 0 (by omega)
theorem s_playLoop {t : Nat} (ht : t ≤ 200) : ∀ d i, i + d = t → ∀ (x : Int64) (a : RS), Ok a → ∃ r a2, Ok a2 ∧
    (∀ S0 S ob, CR S a ob → PR S0 S → ∃ S1, (∀ post : Int32 → St → Prop, post r S1 → lp_X8_play_32 (nI t) S0 post (d + 1) (nI i) x S) ∧ CR S1 a2 ob ∧ PR S0 S1) ∧
    (∀ S, pr S = a → ∃ S2, (∀ post : Int32 → St → Prop, post r S2 → lp_X9_play_32 (nI t) post (d + 1) (nI i) x S) ∧ pr S2 = a2 ∧ CS S S2) := by
  intro d
  induction d with
  | zero =>
    intro i hi x a hk
    have hi : i = t := by omega
    subst hi
    refine ⟨nI (cntS a (aL a)), a, hk, fun S0 S ob h hP => ⟨S, fun post hp => ⟨fun _ => c_soldCount h hk.1 hp, fun c => absurd (Int32.le_refl _) c⟩, h, hP⟩, fun S hS => ⟨S, fun post hp => ⟨fun _ => ?_, fun c => absurd (Int32.le_refl _) c⟩, hS, CS.rf⟩⟩
    subst hS
    exact r_soldCount hk.1 hk.2.1 hp
  | succ d ih =>
    intro i hi x a hk
    have hlt : i < t := by omega
    obtain ⟨x6, h6⟩ : ∃ x6, x6 = x ^^^ (x <<< ((13 : Int32).toInt64 &&& 63)) := ⟨_, rfl⟩
    obtain ⟨x7, h7⟩ : ∃ x7, x7 = x6 ^^^ ((x6.toUInt64 >>> ((7 : Int32).toInt64.toUInt64 &&& Int64.toUInt64 63)).toInt64) := ⟨_, rfl⟩
    obtain ⟨x8, h8⟩ : ∃ x8, x8 = x7 ^^^ (x7 <<< ((17 : Int32).toInt64 &&& 63)) := ⟨_, rfl⟩
    obtain ⟨a1, k1, p8, p9⟩ := s_turn ((x8.toUInt64 >>> ((1 : Int32).toInt64.toUInt64 &&& Int64.toUInt64 63)).toInt64) hk
    obtain ⟨r, a2, k2, q8, q9⟩ := ih (i + 1) (by omega) x8 a1 k1
    refine ⟨r, a2, k2, fun S0 S ob h hP => ?_, fun S hS => ?_⟩
    · obtain ⟨S1, w1, c1, r1⟩ := p8 S ob h
      obtain ⟨S2, w2, c2, r2⟩ := q8 S0 S1 ob c1 (hP.trans r1)
      refine ⟨S2, fun post hp => ⟨fun c => absurd c (nI_ge hlt (by omega)), fun _ v6 e6 v7 e7 v8 e8 => ?_⟩, c2, r2⟩
      subst e6; subst e7; subst e8
      rw [← h6, ← h7, ← h8]
      refine w1 _ (fun v ev => ⟨?_, ?_⟩)
      · have hn3 : gn S1 3 = aR a1 := c1.1.2.2.2.2.2.1
        have hr := k1.1.r240
        have := (hP.trans r1).2
        omega
      · rw [ev, nI_1]; exact w2 post hp
    · obtain ⟨S1, w1, c1, r1⟩ := p9 S hS
      obtain ⟨S2, w2, c2, r2⟩ := q9 S1 c1
      refine ⟨S2, fun post hp => ⟨fun c => absurd c (nI_ge hlt (by omega)), fun _ v6 e6 v7 e7 v8 e8 => ?_⟩, c2, r1.trans r2⟩
      subst e6; subst e7; subst e8
      rw [← h6, ← h7, ← h8]
      refine w1 _ (fun v ev => ?_)
      rw [ev, nI_1]; exact w2 post hp
theorem s_play (x : Int64) (p : Int32) {a : RS} (hk : Ok a) : Sim (wp_X8_play x p) (wp_X9_play x p) a := by
  have tI : p.toInt64.toInt = p.toInt := Int32.toInt_toInt64 p
  have l1 : (1 : Int64) ≤ p.toInt64 ↔ 1 ≤ p.toInt := by rw [j_le, tI]; exact Iff.rfl
  have l2 : p.toInt64 ≤ (200 : Int64) ↔ p.toInt ≤ 200 := by rw [j_le, tI]; exact Iff.rfl
  have m1 : p < (1 : Int32) ↔ p.toInt < 1 := by rw [Int32.lt_iff_toInt_lt]; exact Iff.rfl
  have m2 : p ≤ (200 : Int32) ↔ p.toInt ≤ 200 := by rw [Int32.le_iff_toInt_le]; exact Iff.rfl
  by_cases hw : 1 ≤ p.toInt ∧ p.toInt ≤ 200
  · obtain ⟨t, ht, rfl⟩ : ∃ t, t ≤ 200 ∧ p = nI t := by
      rcases ix_or p 201 (by omega) with ⟨t, ht, e⟩ | q | q
      · exact ⟨t, by omega, e⟩
      · have := Int32.lt_iff_toInt_lt.mp q
        rw [show (0 : Int32).toInt = 0 from rfl] at this; omega
      · have := Int32.le_iff_toInt_le.mp q
        rw [show (nI 201).toInt = 201 from rfl] at this; omega
    obtain ⟨r, a2, k2, q8, q9⟩ := s_playLoop ht t 0 (by omega) (if x = 0 then (88172645463325252 : Int64) else x) a hk
    refine ⟨r, a2, k2, fun S ob h => ?_, fun S hS => ?_⟩
    · obtain ⟨S1, w1, c1, r1⟩ := q8 S S ob h PR.rf
      refine ⟨S1, fun post hp => c_isWithin (fun _ _ => ⟨fun _ => ⟨fun c => ⟨t + 1, by omega, ?_⟩, fun c => ⟨t + 1, by omega, ?_⟩⟩, fun c => absurd c (by decide)⟩) (fun c => absurd c (fun q => q.elim (Int64.not_lt.mpr (l1.mpr hw.1)) (Int64.not_lt.mpr (l2.mpr hw.2)))), c1, r1⟩
      · have := w1 post hp
        rw [if_neg c] at this
        exact this
      · have := w1 post hp
        rw [if_pos c] at this
        exact this
    · obtain ⟨S1, w1, c1, r1⟩ := q9 S hS
      refine ⟨S1, fun post hp => ⟨fun c => absurd (m1.mp c) (by omega), fun _ => ⟨fun _ => ⟨fun c => ⟨t + 1, ?_⟩, fun c => ⟨t + 1, ?_⟩⟩, fun c => absurd (m2.mpr hw.2) c⟩⟩, c1, r1⟩
      · have := w1 post hp
        rw [if_neg c] at this
        exact this
      · have := w1 post hp
        rw [if_pos c] at this
        exact this
  · refine ⟨-1, a, hk, ClR.ro (fun S ob h post hp => ?_), RfR.ro (fun S hS post hp => ?_)⟩
    · exact c_isWithin (fun b1 b2 => absurd ⟨l1.mp b1, l2.mp b2⟩ hw) (fun _ => ⟨fun c => absurd rfl c, fun _ => hp⟩)
    · exact ⟨fun _ => hp, fun b1 => ⟨fun b2 => absurd ⟨Int.not_lt.mp (fun z => b1 (m1.mpr z)), m2.mp b2⟩ hw, fun _ => hp⟩⟩
