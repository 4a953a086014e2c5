/-! ===== what every reachable state keeps ===== -/
def capA (a : RS) (i : Nat) : Nat := (if sT a i = 5 then 4 else (if qi a 25 i = 1 then 2 else 0) + (if sT a i = 3 then 1 + (if qi a 24 i = 1 then 1 else 0) else if sT a i = 4 then 1 else 0))
def capS (a : RS) : Nat → Nat
  | 0 => 0
  | n + 1 => capS a n + capA a n
def heldF (a : RS) (b : Nat) : Nat → Int64
  | 0 => 0
  | n + 1 => heldF a b n + (if (sT a n = 3 ∨ sT a n = 2) ∧ qi a 21 n = nI b then qj a 22 n else 0)
def heldZ (a : RS) (b : Nat) : Nat → Int
  | 0 => 0
  | n + 1 => heldZ a b n + (if (sT a n = 3 ∨ sT a n = 2) ∧ qi a 21 n = nI b then (qj a 22 n).toInt else 0)
def nextF (before sort lot b : Int32) (cents : Int64) : Int32 :=
  ((((((31 : Int64) * before.toInt64 + (7 : Int64) * sort.toInt64) + (5 : Int64) * lot.toInt64) + (3 : Int64) * (b + (1 : Int32)).toInt64) + cents) - ((((((31 : Int64) * before.toInt64 + (7 : Int64) * sort.toInt64) + (5 : Int64) * lot.toInt64) + (3 : Int64) * (b + (1 : Int32)).toInt64) + cents)) / (1000003 : Int64) * (1000003 : Int64)).toInt32
def prevA (a : RS) (r : Nat) : Int32 := if r = 0 then 1 else qi a 38 (r - 1)
def OkC (a : RS) : Prop := qi a 8 0 = nI (aL a) ∧ aL a ≤ 60 ∧ qi a 8 12 = nI (aB a) ∧ aB a ≤ 30 ∧ qi a 8 23 = nI (aD a) ∧ aD a ≤ 18 ∧ qi a 8 30 = nI (aR a) ∧ aR a ≤ capS a (aL a)
def OkL (a : RS) : Prop := ∀ i, i < aL a → qi a 20 i = nI (sT a i) ∧ sT a i < 6 ∧ (qi a 23 i = 0 ∨ qi a 23 i = 1) ∧ (qi a 24 i = 0 ∨ qi a 24 i = 1) ∧ (qi a 25 i = 0 ∨ qi a 25 i = 1) ∧ 1 ≤ (qj a 18 i).toInt ∧ (qj a 18 i).toInt ≤ 1000000000 ∧ 0 ≤ (qj a 19 i).toInt ∧ (qj a 19 i).toInt ≤ 1000000000
def OkT (a : RS) : Prop := ∀ i, i < aL a → ((sT a i = 2 ∨ sT a i = 3) → 0 ≤ (qj a 22 i).toInt) ∧ (qi a 23 i = 1 → sT a i = 3 ∧ (qj a 22 i).toInt ≤ 1000000000)
/-- the clock: none is ON, or lot i is, from its own price down to its reserve -/
def OkN (a : RS) : Prop := (qi a 8 22 = 0 ∨ qi a 8 22 = 1) ∧ (qi a 8 29 = 0 ∨ qi a 8 29 = 1) ∧ (qi a 8 17 = -1 ∨ ∃ i, i < aL a ∧ qi a 8 17 = nI i ∧ sT a i = 1 ∧ 0 ≤ (qj a 8 18).toInt ∧ (qj a 8 18).toInt ≤ (qj a 8 19).toInt ∧ (qj a 8 19).toInt ≤ 10000000 ∧ (qj a 8 20).toInt ≤ 1000000000 ∧ 1 ≤ (qj a 8 21).toInt ∧ (qj a 8 21).toInt ≤ 1000000 ∧ (∀ t : Int, 0 ≤ t → t < (qj a 8 19).toInt → (qj a 8 21).toInt * (t / 100) ≤ (qj a 8 20).toInt))
def OkB (a : RS) : Prop := ∀ b, b < aB a → 0 ≤ (qj a 28 b).toInt ∧ (qj a 28 b).toInt ≤ 1000000000000 ∧ 0 ≤ (qj a 29 b).toInt ∧ (qj a 29 b).toInt ≤ 5000 ∧ heldZ a b (aL a) ≤ (qj a 28 b).toInt
def OkP (a : RS) : Prop := qi a 8 17 ≠ -1 → ∀ b, b < aB a → qj a 30 b = -1 ∨ (0 ≤ (qj a 30 b).toInt ∧ (qj a 30 b).toInt < (qj a 8 19).toInt)
def OkD (a : RS) : Prop := ∀ k, k < aD a → (∃ b, b < aB a ∧ qi a 31 k = nI b) ∧ 0 ≤ (qj a 32 k).toInt ∧ (qj a 32 k).toInt ≤ 1000000000000
def OkR (a : RS) : Prop := ∀ r, r < aR a → qi a 38 r = nextF (prevA a r) (qi a 34 r) (qi a 35 r) (qi a 36 r) (qj a 37 r)
/-- beyond what is in use there are zeros; a taken lot's buyer is a buyer -/
def OkZ (a : RS) : Prop := (∀ i, aL a ≤ i → qi a 23 i = 0 ∧ qi a 24 i = 0 ∧ qi a 25 i = 0 ∧ qi a 27 i = 0) ∧ (∀ b, aB a ≤ b → qj a 29 b = 0) ∧ (∀ i, i < aL a → (sT a i = 2 ∨ sT a i = 3) → ∃ b, b < aB a ∧ qi a 21 i = nI b)
def Ok (a : RS) : Prop := OkC a ∧ OkL a ∧ OkT a ∧ OkN a ∧ OkB a ∧ OkP a ∧ OkD a ∧ OkZ a ∧ OkR a
theorem capA_le (a : RS) (i : Nat) : capA a i ≤ 4 := by
  unfold capA; split <;> (try split) <;> (try split) <;> (try split) <;> omega
theorem capS_le (a : RS) (n : Nat) : capS a n ≤ 4 * n := by
  induction n with
  | zero => exact Nat.le_refl _
  | succ n ih => have := capA_le a n; simp only [capS]; omega
theorem OkC.r240 {a : RS} (h : OkC a) : aR a ≤ 240 := by
  obtain ⟨-, h2, -, -, -, -, -, h8⟩ := h
  have := capS_le a (aL a)
  omega
/-! leaves of the class -/
theorem c_lotAtI {S : St} {a : RS} {ob i : Nat} (h : CR S a ob) (hk : OkC a) (hi : i < aL a) {post : Option Nat → St → Prop} (hp : post (some i) S) : wp_X8_lotAt (nI i) S post := by
  obtain ⟨hc, hl, -⟩ := h
  have h0 : gi S 7 0 6 = nI (aL a) := hc.1.trans hk.1
  have hL := hk.2.1
  refine ⟨fun c => absurd c (nI_pos (by omega)), fun _ => ⟨fun c => absurd (h0 ▸ c) (nI_ge hi (by omega)), fun _ => ⟨fun _ => ⟨vp_in_nI (by omega) (by omega), fun c => ?_, fun j e => ?_⟩, fun c => absurd (show nI i < nI 60 from nI_lt (by omega) (by omega)) c⟩⟩⟩
  · rw [nI_clamp (by omega), (hl i hi).1] at c; cases c
  · rw [nI_clamp (by omega), (hl i hi).1] at e; cases e; exact hp
theorem c_lotAtN {S : St} {a : RS} {ob : Nat} (h : CR S a ob) (hk : OkC a) {p : Int32} (hn : p < 0 ∨ nI (aL a) ≤ p) {post : Option Nat → St → Prop} (hp : post none S) : wp_X8_lotAt p S post := by
  have h0 : gi S 7 0 6 = nI (aL a) := h.1.1.trans hk.1
  refine ⟨fun _ => hp, fun c => ⟨fun _ => hp, fun c2 => ?_⟩⟩
  rcases hn with q | q
  · exact absurd q c
  · exact absurd (h0.symm ▸ q) c2
theorem c_buyerAtI {S : St} {a : RS} {ob i : Nat} (h : CR S a ob) (hk : OkC a) (hi : i < aB a) {post : Option Nat → St → Prop} (hp : post (some i) S) : wp_X8_buyerAt (nI i) S post := by
  obtain ⟨hc, -, -, -, hb, -⟩ := h
  have h0 : gi S 7 0 7 = nI (aB a) := hc.2.1.trans hk.2.2.1
  have hL := hk.2.2.2.1
  refine ⟨fun c => absurd c (nI_pos (by omega)), fun _ => ⟨fun c => absurd (h0 ▸ c) (nI_ge hi (by omega)), fun _ => ⟨fun _ => ⟨vp_in_nI (by omega) (by omega), fun c => ?_, fun j e => ?_⟩, fun c => absurd (show nI i < nI 30 from nI_lt (by omega) (by omega)) c⟩⟩⟩
  · rw [nI_clamp (by omega), (hb i hi).1] at c; cases c
  · rw [nI_clamp (by omega), (hb i hi).1] at e; cases e; exact hp
theorem c_buyerAtN {S : St} {a : RS} {ob : Nat} (h : CR S a ob) (hk : OkC a) {p : Int32} (hn : p < 0 ∨ nI (aB a) ≤ p) {post : Option Nat → St → Prop} (hp : post none S) : wp_X8_buyerAt p S post := by
  have h0 : gi S 7 0 7 = nI (aB a) := h.1.2.1.trans hk.2.2.1
  refine ⟨fun _ => hp, fun c => ⟨fun _ => hp, fun c2 => ?_⟩⟩
  rcases hn with q | q
  · exact absurd q c
  · exact absurd (h0.symm ▸ q) c2
theorem c_bidAtI {S : St} {a : RS} {ob i : Nat} (h : CR S a ob) (hk : OkC a) (hi : i < aD a) {post : Option Nat → St → Prop} (hp : post (some (ob + i)) S) : wp_X8_bidAt (nI i) S post := by
  obtain ⟨hc, -, -, -, -, -, -, hd, -⟩ := h
  have h0 : gi S 7 0 8 = nI (aD a) := hc.2.2.1.trans hk.2.2.2.2.1
  have hL := hk.2.2.2.2.2.1
  refine ⟨fun c => absurd c (nI_pos (by omega)), fun _ => ⟨fun c => absurd (h0 ▸ c) (nI_ge hi (by omega)), fun _ => ⟨fun _ => ⟨vp_in_nI (by omega) (by omega), fun c => ?_, fun j e => ?_⟩, fun c => absurd (show nI i < nI 18 from nI_lt (by omega) (by omega)) c⟩⟩⟩
  · rw [nI_clamp (by omega), (hd i hi).1] at c; cases c
  · rw [nI_clamp (by omega), (hd i hi).1] at e; cases e; exact hp
theorem c_bidAtN {S : St} {a : RS} {ob : Nat} (h : CR S a ob) (hk : OkC a) {p : Int32} (hn : p < 0 ∨ nI (aD a) ≤ p) {post : Option Nat → St → Prop} (hp : post none S) : wp_X8_bidAt p S post := by
  have h0 : gi S 7 0 8 = nI (aD a) := h.1.2.2.1.trans hk.2.2.2.2.1
  refine ⟨fun _ => hp, fun c => ⟨fun _ => hp, fun c2 => ?_⟩⟩
  rcases hn with q | q
  · exact absurd q c
  · exact absurd (h0.symm ▸ q) c2
theorem c_hasTaker {S : St} {a : RS} {ob i : Nat} (h : CR S a ob) (hi : i < aL a) {post : Int32 → St → Prop} (h1 : (sT a i = 3 ∨ sT a i = 2) → post 1 S) (h0 : ¬ (sT a i = 3 ∨ sT a i = 2) → post 0 S) : wp_X5_hasTaker i S post := by
  have e := (h.2.1 i hi).2.2.2.2.2.1
  unfold wp_X5_hasTaker
  rw [e]
  simp only [Option.some.injEq]
  exact ⟨fun c => h1 (Or.inl c), fun c => ⟨fun c2 => h0 (fun q => q.elim c c2), fun c2 => h1 (Or.inr c2)⟩⟩
theorem c_isWithin {S : St} {v lo hi : Int64} {post : Int32 → St → Prop} (h1 : lo ≤ v → v ≤ hi → post 1 S) (h0 : (v < lo ∨ hi < v) → post 0 S) : wp_X8_isWithin v lo hi S post :=
  ⟨fun c => h0 (Or.inl c), fun c => ⟨fun c2 => h0 (Or.inr c2), fun c2 => h1 (Int64.not_lt.mp c) (Int64.not_lt.mp c2)⟩⟩
/-! leaves of the reference -/
theorem r_isLotI {S : St} {i : Nat} (hk : OkC (pr S)) (hi : i < aL (pr S)) {post : Int32 → St → Prop} (hp : post 1 S) : wp_X9_isLot (nI i) S post := by
  have h0 : gi S 8 0 0 = nI (aL (pr S)) := (gi_pr rfl).trans hk.1
  have hL := hk.2.1
  exact ⟨fun c => absurd c (nI_pos (by omega)), fun _ => ⟨fun c => absurd (h0 ▸ c) (nI_ge hi (by omega)), fun _ => hp⟩⟩
theorem r_isLotN {S : St} {p : Int32} (hk : OkC (pr S)) (hn : p < 0 ∨ nI (aL (pr S)) ≤ p) {post : Int32 → St → Prop} (hp : post 0 S) : wp_X9_isLot p S post := by
  have h0 : gi S 8 0 0 = nI (aL (pr S)) := (gi_pr rfl).trans hk.1
  refine ⟨fun _ => hp, fun c => ⟨fun _ => hp, fun c2 => ?_⟩⟩
  rcases hn with q | q
  · exact absurd q c
  · exact absurd (h0.symm ▸ q) c2
theorem r_isBuyerI {S : St} {i : Nat} (hk : OkC (pr S)) (hi : i < aB (pr S)) {post : Int32 → St → Prop} (hp : post 1 S) : wp_X9_isBuyer (nI i) S post := by
  have h0 : gi S 8 0 12 = nI (aB (pr S)) := (gi_pr rfl).trans hk.2.2.1
  have hL := hk.2.2.2.1
  exact ⟨fun c => absurd c (nI_pos (by omega)), fun _ => ⟨fun c => absurd (h0 ▸ c) (nI_ge hi (by omega)), fun _ => hp⟩⟩
theorem r_isBuyerN {S : St} {p : Int32} (hk : OkC (pr S)) (hn : p < 0 ∨ nI (aB (pr S)) ≤ p) {post : Int32 → St → Prop} (hp : post 0 S) : wp_X9_isBuyer p S post := by
  have h0 : gi S 8 0 12 = nI (aB (pr S)) := (gi_pr rfl).trans hk.2.2.1
  refine ⟨fun _ => hp, fun c => ⟨fun _ => hp, fun c2 => ?_⟩⟩
  rcases hn with q | q
  · exact absurd q c
  · exact absurd (h0.symm ▸ q) c2
theorem st_eq {a : RS} {i k : Nat} (h : OkL a) (hi : i < aL a) (hk : k < 2 ^ 31) : qi a 20 i = nI k ↔ sT a i = k := by
  have h1 := (h i hi).1
  have h2 := (h i hi).2.1
  rw [h1]
  exact nI_eq (by omega) hk
/-! what is held -/
theorem c_freeOf {S : St} {a : RS} {ob jp : Nat} (h : CR S a ob) (hk : OkC a) (hj : jp < aB a) {post : Int64 → St → Prop} (hp : post (qj a 28 jp - heldF a jp (aL a)) S) : wp_X8_freeOf jp S post := by
  have hL := hk.2.1
  have h0 : gi S 7 0 6 = nI (aL a) := h.1.1.trans hk.1
  intro v1 e1
  have e1 : v1 = qj a 28 jp := e1.trans (h.2.2.2.2.1 jp hj).2.2.1
  refine ⟨aL a + 1, ?_⟩
  have key : ∀ d i, i + d = aL a → ∀ acc, acc = qj a 28 jp - heldF a jp i → lp_X8_freeOf_8 jp post (d + 1) (nI i) acc S := by
    intro d
    induction d with
    | zero =>
      intro i hi acc ha
      have hi : i = aL a := by omega
      subst hi
      refine ⟨fun _ => by rw [ha]; exact hp, fun c => absurd (by rw [h0]; exact Int32.le_refl _) c⟩
    | succ d ih =>
      intro i hi acc ha
      have hlt : i < aL a := by omega
      refine ⟨fun c => absurd (h0 ▸ c) (nI_ge hlt (by omega)), fun _ => ?_⟩
      refine c_lotAtI h hk hlt ?_
      refine ⟨fun c => (by cases c), fun j e => ?_⟩
      cases e
      refine c_hasTaker h hlt (fun ht => ⟨fun c => absurd c (by decide), fun _ => ?_⟩) (fun ht => ⟨fun _ v ev => ?_, fun c => absurd rfl c⟩)
      · have e5 := h.2.2.1 i hlt ht.symm
        have eb := (h.2.2.2.2.1 jp hj).2.1
        rw [e5.1, e5.2, eb]
        refine ⟨fun c v ev => ?_, fun c v ev w ew => ?_⟩
        · subst ev
          refine (nI_1 i) ▸ ih (i + 1) (by omega) acc ?_
          simp only [heldF]
          rw [if_neg (fun q => c q.2), ha]; grind
        · subst ev; subst ew
          refine (nI_1 i) ▸ ih (i + 1) (by omega) _ ?_
          simp only [heldF]
          rw [if_pos ⟨ht, c⟩, ha]; grind
      · subst ev
        refine (nI_1 i) ▸ ih (i + 1) (by omega) acc ?_
        simp only [heldF]
        rw [if_neg (fun q => ht q.1), ha]; grind
  exact key (aL a) 0 (by omega) v1 (by rw [e1]; simp only [heldF]; grind)
theorem r_heldBy {S : St} {b : Nat} (hk : OkC (pr S)) (hl : OkL (pr S)) {post : Int64 → St → Prop} (hp : post (heldF (pr S) b (aL (pr S))) S) : wp_X9_heldBy (nI b) S post := by
  have hL := hk.2.1
  have h0 : gi S 8 0 0 = nI (aL (pr S)) := (gi_pr rfl).trans hk.1
  refine ⟨aL (pr S) + 1, ?_⟩
  have key : ∀ d i, i + d = aL (pr S) → ∀ acc, acc = heldF (pr S) b i → lp_X9_heldBy_5 (nI b) post (d + 1) (nI i) acc S := by
    intro d
    induction d with
    | zero =>
      intro i hi acc ha
      have hi : i = aL (pr S) := by omega
      subst hi
      refine ⟨fun _ => by rw [ha]; exact hp, fun c => absurd (by rw [h0]; exact Int32.le_refl _) c⟩
    | succ d ih =>
      intro i hi acc ha
      have hlt : i < aL (pr S) := by omega
      have hin : vp_in (nI i) 60 := vp_in_nI (by omega) (by omega)
      have e3 := st_eq (k := 3) hl hlt (by omega)
      have e2 := st_eq (k := 2) hl hlt (by omega)
      have g0 : gi S 20 0 i = qi (pr S) 20 i := gi_pr rfl
      have g1 : gi S 21 0 i = qi (pr S) 21 i := gi_pr rfl
      have g2 : gj S 22 0 i = qj (pr S) 22 i := gj_pr rfl
      have nx : ∀ v w : Int64, v = acc + w → w = (if (sT (pr S) i = 3 ∨ sT (pr S) i = 2) ∧ qi (pr S) 21 i = nI b then qj (pr S) 22 i else 0) → ∀ x : Int32, x = nI i + 1 → lp_X9_heldBy_5 (nI b) post (d + 1) x v S := by
        intro v w hv hw x hx
        rw [hx, nI_1]
        exact ih (i + 1) (by omega) v (by rw [hv, hw, ha]; rfl)
      refine ⟨fun c => absurd (h0 ▸ c) (nI_ge hlt (by omega)), fun _ => ⟨hin, ?_⟩⟩
      rw [nI_clamp (by omega), g0, g1, g2]
      refine ⟨fun c => ⟨hin, fun c2 v hv x hx => nx v 0 hv (by rw [if_neg (fun q => c2 q.2)]) x hx, fun c2 => ⟨hin, fun v hv x hx => nx v _ hv (by rw [if_pos ⟨Or.inl (e3.mp c), c2⟩]) x hx⟩⟩, fun c => ⟨hin, fun c3 v hv x hx => nx v 0 hv (by rw [if_neg (fun q => q.1.elim (fun z => c (e3.mpr z)) (fun z => c3 (e2.mpr z)))]) x hx, fun c3 => ⟨hin, fun c2 v hv x hx => nx v 0 hv (by rw [if_neg (fun q => c2 q.2)]) x hx, fun c2 => ⟨hin, fun v hv x hx => nx v _ hv (by rw [if_pos ⟨Or.inr (e2.mp c3), c2⟩]) x hx⟩⟩⟩⟩
  exact key (aL (pr S)) 0 (by omega) 0 rfl
theorem r_free {S : St} {b : Nat} (hk : OkC (pr S)) (hl : OkL (pr S)) (hb : b < aB (pr S)) {post : Int64 → St → Prop} (hp : post (qj (pr S) 28 b - heldF (pr S) b (aL (pr S))) S) : wp_X9_free (nI b) S post := by
  have hB := hk.2.2.2.1
  refine ⟨vp_in_nI (by omega) (by omega), r_heldBy hk hl ?_⟩
  rw [nI_clamp (by omega), show gj S 28 0 b = qj (pr S) 28 b from gj_pr rfl]
  exact hp
