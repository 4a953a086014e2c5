/-! ===== sets of bids ===== -/
def sumB (C : Nat → Int) (P : Nat → Bool) : Nat → Int
  | 0 => 0
  | n + 1 => sumB C P n + (if P n = true then C n else 0)
theorem sumB_c {C : Nat → Int} {P Q : Nat → Bool} {n : Nat} (h : ∀ k, k < n → P k = Q k) : sumB C P n = sumB C Q n := by
  induction n with
  | zero => rfl
  | succ n ih => simp only [sumB]; rw [ih (fun k hk => h k (by omega)), h n (by omega)]
theorem sumB_u {C : Nat → Int} {P Q : Nat → Bool} {g n : Nat} (hg : g < n) (h : ∀ k, k ≠ g → Q k = P k) (h0 : P g = false) (h1 : Q g = true) : sumB C Q n = sumB C P n + C g := by
  induction n with
  | zero => omega
  | succ n ih =>
    simp only [sumB]
    by_cases e : n = g
    · subst e
      rw [sumB_c (P := Q) (Q := P) (fun k hk => h k (by omega)), h0, h1]; simp
    · rw [ih (by omega), h n e]; omega
theorem sumB_m {C : Nat → Int} {P Q : Nat → Bool} {n : Nat} (hC : ∀ k, k < n → 0 ≤ C k) (h : ∀ k, k < n → P k = true → Q k = true) : sumB C P n ≤ sumB C Q n := by
  induction n with
  | zero => exact Int.le_refl _
  | succ n ih =>
    have := ih (fun k hk => hC k (by omega)) (fun k hk => h k (by omega))
    have c := hC n (by omega)
    simp only [sumB]
    by_cases q : P n = true
    · rw [if_pos q, if_pos (h n (by omega) q)]; omega
    · rw [if_neg q]; split <;> omega
theorem sumB_nn {C : Nat → Int} {P : Nat → Bool} {n : Nat} (hC : ∀ k, k < n → 0 ≤ C k) : 0 ≤ sumB C P n := by
  induction n with
  | zero => exact Int.le_refl _
  | succ n ih =>
    have := ih (fun k hk => hC k (by omega))
    have := hC n (by omega)
    simp only [sumB]; split <;> omega
theorem sumB_le {C : Nat → Int} {P : Nat → Bool} {n : Nat} (hC : ∀ k, k < n → 0 ≤ C k ∧ C k ≤ 1000000000000) : sumB C P n ≤ n * 1000000000000 := by
  induction n with
  | zero => exact Int.le_refl _
  | succ n ih =>
    have := ih (fun k hk => hC k (by omega))
    have := hC n (by omega)
    simp only [sumB]; split <;> omega
theorem sumB_1 {C : Nat → Int} {P Q : Nat → Bool} {g n : Nat} (hC : 0 ≤ C g) (h : ∀ k, k ≠ g → Q k = P k) : sumB C Q n ≤ sumB C P n + C g := by
  have : sumB C Q n ≤ sumB C P n + (if g < n then C g else 0) := by
    induction n with
    | zero => simp [sumB]
    | succ n ih =>
      simp only [sumB]
      by_cases e : n = g
      · subst e
        rw [sumB_c (P := Q) (Q := P) (fun k hk => h k (by omega))]
        rw [if_pos (show n < n + 1 by omega)]
        split <;> split <;> omega
      · rw [h n e]
        by_cases q : g < n
        · rw [if_pos q] at ih; rw [if_pos (show g < n + 1 by omega)]; omega
        · rw [if_neg q] at ih; rw [if_neg (show ¬ g < n + 1 by omega)]; omega
  split at this <;> omega
def rsum (C : Nat → Int) : List Nat → Int
  | [] => 0
  | g :: s => C g + rsum C s
theorem rsum_b {C : Nat → Int} {n : Nat} (hC : ∀ k, 0 ≤ C k) : ∀ (s : List Nat) (P Q : Nat → Bool), (∀ k, k ∉ s → Q k = P k) → sumB C Q n ≤ sumB C P n + rsum C s := by
  intro s
  induction s with
  | nil => intro P Q h; rw [sumB_c (P := Q) (Q := P) (fun k _ => h k (by simp))]; simp [rsum]
  | cons g s ih =>
    intro P Q h
    have h1 := ih P (fun k => if k = g then P g else Q k) (fun k hk => by
      by_cases e : k = g
      · subst e; simp
      · simp [e]; exact h k (by simp [e, hk]))
    have h2 := sumB_1 (C := C) (P := fun k => if k = g then P g else Q k) (Q := Q) (g := g) (n := n) (hC g) (fun k hk => by simp [hk])
    show _ ≤ _ + (C g + rsum C s)
    omega
theorem rsum_bd {C : Nat → Int} : ∀ (s : List Nat), (∀ k, k ∈ s → 0 ≤ C k ∧ C k ≤ 1000000000000) → 0 ≤ rsum C s ∧ rsum C s ≤ s.length * 1000000000000 := by
  intro s
  induction s with
  | nil => intro _; simp [rsum]
  | cons g s ih =>
    intro h
    have h1 := h g (by simp)
    have h2 := ih (fun k hk => h k (by simp [hk]))
    simp only [rsum, List.length_cons]
    omega
theorem szB_m {P Q : Nat → Bool} {n : Nat} (h : ∀ k, k < n → P k = true → Q k = true) : szB P n ≤ szB Q n := by
  induction n with
  | zero => exact Nat.le_refl _
  | succ n ih =>
    have := ih (fun k hk => h k (by omega))
    simp only [szB]
    by_cases q : P n = true
    · rw [if_pos q, if_pos (h n (by omega) q)]; omega
    · rw [if_neg q]; split <;> omega
theorem szB_eq {P Q : Nat → Bool} {n : Nat} (h : ∀ k, k < n → P k = true → Q k = true) (e : szB P n = szB Q n) : ∀ k, k < n → P k = Q k := by
  induction n with
  | zero => intro k hk; omega
  | succ n ih =>
    have m := szB_m (P := P) (Q := Q) (n := n) (fun k hk => h k (by omega))
    simp only [szB] at e
    have hn := h n (by omega)
    have e1 : szB P n = szB Q n ∧ P n = Q n := by
      cases hp : P n with
      | true =>
        have hq := hn hp
        rw [hp, hq] at e
        simp at e
        exact ⟨e, hq.symm⟩
      | false =>
        cases hq : Q n with
        | true => rw [hp, hq] at e; simp at e; omega
        | false => rw [hp, hq] at e; simp at e; exact ⟨e, rfl⟩
    intro k hk
    by_cases q : k = n
    · subst q; exact e1.2
    · exact ih (fun k hk => h k (by omega)) e1.1 k (by omega)
def lexW (k : Nat) : Int := 2 ^ (17 - k)
theorem lex_lt {P Q : Nat → Bool} {g : Nat} (hg : g < 18) (h : ∀ k, k < g → P k = Q k) (h1 : P g = true) (h0 : Q g = false) : sumB lexW Q 18 < sumB lexW P 18 := by
  have key : ∀ d n, n = g + 1 + d → n ≤ 18 → sumB lexW Q n + 2 ^ (18 - n) ≤ sumB lexW P n := by
    intro d
    induction d with
    | zero =>
      intro n hn hn2
      subst hn
      simp only [sumB, Nat.add_zero]
      rw [h1, h0, sumB_c (P := P) (Q := Q) h]
      simp only [lexW]
      rw [show 18 - (g + 1) = 17 - g by omega]
      simp
    | succ d ih =>
      intro n hn hn2
      obtain ⟨m, rfl⟩ : ∃ m, n = m + 1 := ⟨n - 1, by omega⟩
      have := ih m (by omega) (by omega)
      have e : (2 : Int) ^ (18 - m) = 2 * 2 ^ (17 - m) := by
        rw [show 18 - m = (17 - m) + 1 by omega, Int.pow_succ]; omega
      rw [e] at this
      have p : (0 : Int) < 2 ^ (17 - m) := Int.pow_pos (by decide)
      simp only [sumB]
      rw [show 18 - (m + 1) = 17 - m by omega]
      simp only [lexW]
      split <;> split <;> omega
  have := key (17 - g) 18 (by omega) (by omega)
  simp at this
  omega
def bidL (a : RS) (k : Nat) : Int64 := qj a 33 k
def bidC (a : RS) (k : Nat) : Int := if k < aD a then (qj a 32 k).toInt else 0
def bidU (a : RS) (b k : Nat) : Int := if qi a 31 k = nI b then bidC a k else 0
def sS (a : RS) (x : Int32) : Int := sumB (bidC a) (bt x) (aD a)
def zS (x : Int32) : Nat := szB (bt x) 18
def lS (x : Int32) : Int := sumB lexW (bt x) 18
def byB (a : RS) (b : Nat) (x : Int32) : Int := sumB (bidU a b) (bt x) (aD a)
def Feas (a : RS) (x : Int32) : Prop := (∀ j k, j < aD a → k < aD a → j ≠ k → bt x j = true → bt x k = true → bidL a j &&& bidL a k = 0) ∧ ∀ b, b < aB a → byB a b x ≤ (freeV a b).toInt
def kle (a : RS) (x y : Int32) : Prop := sS a x < sS a y ∨ (sS a x = sS a y ∧ (zS y < zS x ∨ (zS x = zS y ∧ lS x ≤ lS y)))
theorem kle_r {a : RS} {x : Int32} : kle a x x := Or.inr ⟨rfl, Or.inr ⟨rfl, Int.le_refl _⟩⟩
theorem kle_t {a : RS} {x y z : Int32} (h1 : kle a x y) (h2 : kle a y z) : kle a x z := by unfold kle at *; omega
theorem kle_u {a : RS} {x y : Int32} (hx : ∀ k, bt x k = true → k < 18) (hy : ∀ k, bt y k = true → k < 18) (h1 : kle a x y) (h2 : kle a y x) : x = y := by
  refine Classical.byContradiction (fun e => ?_)
  have el : lS x = lS y := by unfold kle at *; omega
  obtain ⟨j, hj, hd, hl⟩ := low_diff e
  cases q : bt x j with
  | true =>
    have q2 : bt y j = false := by cases z : bt y j with
      | true => exact absurd (q.trans z.symm) hd
      | false => rfl
    have := lex_lt (P := bt x) (Q := bt y) (hx j q) hl q q2
    unfold lS at el; omega
  | false =>
    have q2 : bt y j = true := by cases z : bt y j with
      | true => rfl
      | false => exact absurd (q.trans z.symm) hd
    have := lex_lt (P := bt y) (Q := bt x) (hy j q2) (fun k hk => (hl k hk).symm) q2 q
    unfold lS at el; omega
theorem bidC_b {a : RS} (h : OkD a) (k : Nat) : 0 ≤ bidC a k ∧ bidC a k ≤ 1000000000000 := by
  unfold bidC
  split
  · rename_i q; exact (h k q).2
  · omega
theorem bidU_b {a : RS} (h : OkD a) (b k : Nat) : 0 ≤ bidU a b k ∧ bidU a b k ≤ 1000000000000 := by
  unfold bidU
  split
  · exact bidC_b h k
  · omega
/-! the good bids, in order -/
noncomputable def gl (G : Nat → Prop) : Nat → List Nat
  | 0 => []
  | n + 1 => @ite _ (G n) (Classical.propDecidable _) (gl G n ++ [n]) (gl G n)
theorem gl_t {G : Nat → Prop} {n : Nat} (h : G n) : gl G (n + 1) = gl G n ++ [n] := by simp only [gl]; exact if_pos h
theorem gl_f {G : Nat → Prop} {n : Nat} (h : ¬ G n) : gl G (n + 1) = gl G n := by simp only [gl]; exact if_neg h
theorem gl_mem {G : Nat → Prop} {n k : Nat} : k ∈ gl G n ↔ (k < n ∧ G k) := by
  induction n with
  | zero => simp [gl]
  | succ n ih =>
    by_cases q : G n
    · rw [gl_t q, List.mem_append, ih, List.mem_singleton]
      constructor
      · rintro (z | z)
        · exact ⟨by omega, z.2⟩
        · subst z; exact ⟨by omega, q⟩
      · rintro ⟨z1, z2⟩
        by_cases e : k = n
        · exact Or.inr e
        · exact Or.inl ⟨by omega, z2⟩
    · rw [gl_f q, ih]
      constructor
      · rintro ⟨z1, z2⟩; exact ⟨by omega, z2⟩
      · rintro ⟨z1, z2⟩; exact ⟨Nat.lt_of_le_of_ne (by omega) (fun e => q (e ▸ z2)), z2⟩
theorem gl_len {G : Nat → Prop} {n : Nat} : (gl G n).length ≤ n := by
  induction n with
  | zero => simp [gl]
  | succ n ih =>
    by_cases q : G n
    · rw [gl_t q]; simp; omega
    · rw [gl_f q]; omega
theorem gl_pw {G : Nat → Prop} {n : Nat} : (gl G n).Pairwise (· < ·) := by
  induction n with
  | zero => simp [gl]
  | succ n ih =>
    by_cases q : G n
    · rw [gl_t q, List.pairwise_append]
      refine ⟨ih, List.pairwise_singleton _ _, fun x hx y hy => ?_⟩
      rw [List.mem_singleton] at hy
      subst hy
      exact (gl_mem.mp hx).1
    · rw [gl_f q]; exact ih
theorem gl_cut {G : Nat → Prop} {n g : Nat} {pre s : List Nat} (h : gl G n = pre ++ g :: s) : (∀ k, k ∈ pre → k < g) ∧ (∀ k, k ∈ s → g < k) ∧ g < n ∧ G g ∧ ∀ k, k ∈ s → k < n := by
  have p := gl_pw (G := G) (n := n)
  rw [h, List.pairwise_append] at p
  obtain ⟨-, p2, p3⟩ := p
  rw [List.pairwise_cons] at p2
  have m := (gl_mem (G := G) (n := n) (k := g)).mp (by rw [h]; simp)
  exact ⟨fun k hk => p3 k hk g (by simp), fun k hk => p2.1 k hk, m.1, m.2, fun k hk => ((gl_mem (G := G) (n := n) (k := k)).mp (by rw [h]; simp [hk])).1⟩
