/-! ===== the two runs apart: the class over its rows, the reference over its own ===== -/
def PR (S S1 : St) : Prop := pr S1 = pr S ∧ gn S1 99 + gn S 3 = gn S 99 + gn S1 3
theorem PR.rf {S : St} : PR S S := ⟨rfl, rfl⟩
theorem PR.trans {S S1 S2 : St} (h1 : PR S S1) (h2 : PR S1 S2) : PR S S2 := ⟨h2.1.trans h1.1, by have := h1.2; have := h2.2; omega⟩
def ClR {ρ : Type} (w : St → (ρ → St → Prop) → Prop) (a : RS) (r : ρ) (a2 : RS) : Prop := ∀ S ob, CR S a ob → ∃ S1, (∀ post, post r S1 → w S post) ∧ CR S1 a2 ob ∧ PR S S1
def RfR {ρ : Type} (w : St → (ρ → St → Prop) → Prop) (a : RS) (r : ρ) (a2 : RS) : Prop := ∀ S, pr S = a → ∃ S2, (∀ post, post r S2 → w S post) ∧ pr S2 = a2 ∧ CS S S2
def Sim {ρ : Type} (w8 w9 : St → (ρ → St → Prop) → Prop) (a : RS) : Prop := ∃ r a2, Ok a2 ∧ ClR w8 a r a2 ∧ RfR w9 a r a2
theorem ClR.ro {ρ : Type} {w : St → (ρ → St → Prop) → Prop} {a : RS} {r : ρ} (h : ∀ S ob, CR S a ob → ∀ post, post r S → w S post) : ClR w a r a := fun S ob hc => ⟨S, h S ob hc, hc, PR.rf⟩
theorem RfR.ro {ρ : Type} {w : St → (ρ → St → Prop) → Prop} {a : RS} {r : ρ} (h : ∀ S, pr S = a → ∀ post, post r S → w S post) : RfR w a r a := fun S hc => ⟨S, h S hc, hc, CS.rf⟩
theorem Sim.both {ρ : Type} {w8 w9 : St → (ρ → St → Prop) → Prop} {S : St} (hI : Inv S) (h : ∀ a, Ok a → Sim w8 w9 a) : Both w8 w9 S := by
  obtain ⟨ob, hc, hk⟩ := hI
  obtain ⟨r, a2, k2, h8, h9⟩ := h _ hk
  obtain ⟨S1, p1, c1, q1⟩ := h8 S ob hc
  obtain ⟨S2, p2, e2, q2⟩ := h9 S1 q1.1
  exact ⟨r, S1, S2, p1, p2, ob, by rw [e2]; exact c1.cs q2, by rw [e2]; exact k2⟩
/-! ===== the presses as one row ===== -/
def sP (S : St) (f : Nat → Int64) : St := (S.1, (fun k j x => if k = 1 ∧ x = 3 then f j else S.2.1 k j x), S.2.2)
def sQ (S : St) (g : Nat → Int64) : St := (S.1, (fun k j x => if k = 30 ∧ j = 0 then g x else S.2.1 k j x), S.2.2)
def wP (a : RS) (g : Nat → Int64) : RS := (a.1, (fun k f => if k = 30 then g f else a.2 k f))
theorem gj_sP (S : St) (f : Nat → Int64) (k j x : Nat) : gj (sP S f) k j x = if k = 1 ∧ x = 3 then f j else gj S k j x := rfl
theorem gj_sQ (S : St) (g : Nat → Int64) (k j x : Nat) : gj (sQ S g) k j x = if k = 30 ∧ j = 0 then g x else gj S k j x := rfl
theorem qj_wP (a : RS) (g : Nat → Int64) (k f : Nat) : qj (wP a g) k f = if k = 30 then g f else qj a k f := rfl
theorem gj_sP3 (S : St) (f : Nat → Int64) (b : Nat) : gj (sP S f) 1 b 3 = f b := rfl
theorem gj_sQ3 (S : St) (g : Nat → Int64) (b : Nat) : gj (sQ S g) 30 0 b = g b := rfl
theorem sP_id (S : St) : sP S (fun b => gj S 1 b 3) = S := by
  refine Prod.ext rfl (Prod.ext ?_ rfl)
  funext k j x
  show (if k = 1 ∧ x = 3 then S.2.1 1 j 3 else S.2.1 k j x) = S.2.1 k j x
  split
  · rename_i q; rw [q.1, q.2]
  · rfl
theorem sQ_id (S : St) : sQ S (fun b => gj S 30 0 b) = S := by
  refine Prod.ext rfl (Prod.ext ?_ rfl)
  funext k j x
  show (if k = 30 ∧ j = 0 then S.2.1 30 0 x else S.2.1 k j x) = S.2.1 k j x
  split
  · rename_i q; rw [q.1, q.2]
  · rfl
theorem sP_sj (S : St) (f : Nat → Int64) (b : Nat) (v : Int64) : sj (sP S f) 1 b 3 v = sP S (fun j => if j = b then v else f j) := by
  refine Prod.ext rfl (Prod.ext ?_ rfl)
  funext k j x
  show (if k = 1 ∧ j = b ∧ x = 3 then v else if k = 1 ∧ x = 3 then f j else S.2.1 k j x) = if k = 1 ∧ x = 3 then (if j = b then v else f j) else S.2.1 k j x
  by_cases h1 : k = 1 ∧ x = 3
  · by_cases h2 : j = b
    · rw [if_pos ⟨h1.1, h2, h1.2⟩, if_pos h1, if_pos h2]
    · rw [if_neg (fun q => h2 q.2.1), if_pos h1, if_pos h1, if_neg h2]
  · rw [if_neg (fun q => h1 ⟨q.1, q.2.2⟩), if_neg h1, if_neg h1]
theorem sQ_sj (S : St) (g : Nat → Int64) (b : Nat) (v : Int64) : sj (sQ S g) 30 0 b v = sQ S (fun j => if j = b then v else g j) := by
  refine Prod.ext rfl (Prod.ext ?_ rfl)
  funext k j x
  show (if k = 30 ∧ j = 0 ∧ x = b then v else if k = 30 ∧ j = 0 then g x else S.2.1 k j x) = if k = 30 ∧ j = 0 then (if x = b then v else g x) else S.2.1 k j x
  by_cases h1 : k = 30 ∧ j = 0
  · by_cases h2 : x = b
    · rw [if_pos ⟨h1.1, h1.2, h2⟩, if_pos h1, if_pos h2]
    · rw [if_neg (fun q => h2 q.2.2), if_pos h1, if_pos h1, if_neg h2]
  · rw [if_neg (fun q => h1 ⟨q.1, q.2.1⟩), if_neg h1, if_neg h1]
theorem pr_sP (S : St) (f : Nat → Int64) : pr (sP S f) = pr S := by
  refine Prod.ext rfl ?_
  funext k x
  show (if isR k = true then (if k = 1 ∧ x = 3 then f 0 else S.2.1 k 0 x) else 0) = if isR k = true then S.2.1 k 0 x else 0
  by_cases e : k = 1
  · subst e; rfl
  · rw [show (if k = 1 ∧ x = 3 then f 0 else S.2.1 k 0 x) = S.2.1 k 0 x from if_neg (fun q => e q.1)]
theorem pr_sQ (S : St) (g : Nat → Int64) : pr (sQ S g) = wP (pr S) g := by
  refine Prod.ext rfl ?_
  funext k x
  show (if isR k = true then (if k = 30 ∧ 0 = 0 then g x else S.2.1 k 0 x) else 0) = if k = 30 then g x else if isR k = true then S.2.1 k 0 x else 0
  by_cases e : k = 30
  · subst e; rfl
  · rw [show (if k = 30 ∧ 0 = 0 then g x else S.2.1 k 0 x) = S.2.1 k 0 x from if_neg (fun q => e q.1), if_neg e]
theorem cs_sQ {S S1 : St} (g : Nat → Int64) (h : CS S S1) : CS S (sQ S1 g) := h.trans ⟨fun k j f hk => ⟨rfl, if_neg (by rintro ⟨rfl, -⟩; exact absurd hk (by decide))⟩, fun _ _ _ => rfl, fun _ => rfl⟩
theorem PR_sP {S S1 : St} (f : Nat → Int64) (h : PR S S1) : PR S (sP S1 f) := h.trans ⟨pr_sP S1 f, rfl⟩
theorem sP_sP (S : St) (f f2 : Nat → Int64) : sP (sP S f) f2 = sP S f2 := by
  refine Prod.ext rfl (Prod.ext ?_ rfl)
  funext k j x
  show (if k = 1 ∧ x = 3 then f2 j else if k = 1 ∧ x = 3 then f j else S.2.1 k j x) = if k = 1 ∧ x = 3 then f2 j else S.2.1 k j x
  split <;> rfl
theorem sQ_sQ (S : St) (f f2 : Nat → Int64) : sQ (sQ S f) f2 = sQ S f2 := by
  refine Prod.ext rfl (Prod.ext ?_ rfl)
  funext k j x
  show (if k = 30 ∧ j = 0 then f2 x else if k = 30 ∧ j = 0 then f x else S.2.1 k j x) = if k = 30 ∧ j = 0 then f2 x else S.2.1 k j x
  split <;> rfl
theorem wP_wP (a : RS) (f f2 : Nat → Int64) : wP (wP a f) f2 = wP a f2 := by
  refine Prod.ext rfl ?_
  funext k x
  show (if k = 30 then f2 x else if k = 30 then f x else a.2 k x) = if k = 30 then f2 x else a.2 k x
  split <;> rfl
theorem wP_wj {a : RS} {g : Nat → Int64} {k f : Nat} {v : Int64} (h : k ≠ 30) : wP (wj a k f v) g = wj (wP a g) k f v := by
  refine Prod.ext rfl ?_
  funext x y
  show (if x = 30 then g y else if x = k ∧ y = f then v else a.2 x y) = if x = k ∧ y = f then v else if x = 30 then g y else a.2 x y
  by_cases e : x = 30
  · subst e; rw [if_pos rfl, if_neg (fun q => h q.1.symm), if_pos rfl]
  · rw [if_neg e, if_neg e]
theorem wP_wi {a : RS} {g : Nat → Int64} {k f : Nat} {v : Int32} : wP (wi a k f v) g = wi (wP a g) k f v := rfl
theorem wP_id (a : RS) : wP a (fun b => qj a 30 b) = a := by
  refine Prod.ext rfl ?_
  funext k x
  show (if k = 30 then a.2 30 x else a.2 k x) = a.2 k x
  split
  · rename_i q; rw [q]
  · rfl
theorem heldZ_wP {a : RS} {g : Nat → Int64} {b n : Nat} : heldZ (wP a g) b n = heldZ a b n := heldZ_c (fun i _ => hvZ_c rfl rfl rfl)
theorem capS_wP {a : RS} {g : Nat → Int64} {n : Nat} : capS (wP a g) n = capS a n := capS_c (fun i _ => capA_c rfl rfl rfl)
theorem heldF_c {a a2 : RS} {b n : Nat} (h : ∀ i, i < n → qi a2 20 i = qi a 20 i ∧ qi a2 21 i = qi a 21 i ∧ qj a2 22 i = qj a 22 i) : heldF a2 b n = heldF a b n := by
  induction n with
  | zero => rfl
  | succ n ih =>
    obtain ⟨h0, h1, h2⟩ := h n (by omega)
    simp only [heldF]
    rw [ih (fun i hi => h i (by omega))]
    unfold sT
    rw [h0, h1, h2]
theorem heldF_wP {a : RS} {g : Nat → Int64} {b n : Nat} : heldF (wP a g) b n = heldF a b n := heldF_c (fun i _ => ⟨rfl, rfl, rfl⟩)
theorem CR.P {S : St} {a : RS} {ob : Nat} {f g : Nat → Int64} (h : CR S a ob) (hp : ∀ b, b < aB a → f b = if qi a 8 17 = -1 then -1 else g b) : CR (sP S f) (wP a g) ob := by
  obtain ⟨hCRc, hCRl, hCRt, hCRo, hCRb, hCRp, hCRk, hCRd, hCRs, hCRr⟩ := h
  exact ⟨hCRc, hCRl, hCRt, hCRo, hCRb, hp, hCRk, hCRd, hCRs, hCRr⟩
theorem Ok.P {a : RS} {g : Nat → Int64} (h : Ok a) (hp : qi a 8 17 ≠ -1 → ∀ b, b < aB a → g b = -1 ∨ (0 ≤ (g b).toInt ∧ (g b).toInt < (qj a 8 19).toInt)) : Ok (wP a g) := by
  obtain ⟨hOkC, hOkL, hOkT, hOkN, hOkB, hOkP, hOkD, hOkZ, hOkR⟩ := h
  refine ⟨?_, hOkL, hOkT, hOkN, ?_, hp, hOkD, hOkZ, hOkR⟩
  · obtain ⟨c1, c2, c3, c4, c5, c6, c7, c8⟩ := hOkC
    exact ⟨c1, c2, c3, c4, c5, c6, c7, by rw [show aL (wP a g) = aL a from rfl, capS_wP]; exact c8⟩
  · intro b hb
    have := hOkB b hb
    exact ⟨this.1, this.2.1, this.2.2.1, this.2.2.2.1, by rw [show aL (wP a g) = aL a from rfl, heldZ_wP]; exact this.2.2.2.2⟩
/-! the loops over the presses -/
theorem c_buyerAt0 {S : St} {B b : Nat} (h0 : gi S 7 0 7 = nI B) (hB : B ≤ 30) (hb : b < B) (h1 : gr S 11 0 b = some b) {post : Option Nat → St → Prop} (hp : post (some b) S) : wp_X8_buyerAt (nI b) S post := by
  refine ⟨fun c => absurd c (nI_pos (by omega)), fun _ => ⟨fun c => absurd (h0 ▸ c) (nI_ge hb (by omega)), fun _ => ⟨fun _ => ⟨vp_in_nI (by omega) (by omega), fun c => ?_, fun j e => ?_⟩, fun c => absurd (show nI b < nI 30 from nI_lt (by omega) (by omega)) c⟩⟩⟩
  · rw [nI_clamp (by omega), h1] at c; cases c
  · rw [nI_clamp (by omega), h1] at e; cases e; exact hp
noncomputable def dropF (p : Nat → Int64) (P : Nat → Prop) (n : Nat) : Nat → Int64 := fun b => @ite _ (b < n ∧ P b) (Classical.propDecidable _) (-1) (p b)
theorem dropF_0 (p : Nat → Int64) (P : Nat → Prop) : dropF p P 0 = p := by
  funext b; unfold dropF; exact if_neg (fun q => absurd q.1 (by omega))
theorem dropF_n (p : Nat → Int64) (P : Nat → Prop) {n b : Nat} (h : n ≤ b) : dropF p P n b = p b := by
  unfold dropF; exact if_neg (fun q => absurd q.1 (by omega))
theorem dropF_s (p : Nat → Int64) (P : Nat → Prop) {n : Nat} (h : P n) : (fun j => if j = n then -1 else dropF p P n j) = dropF p P (n + 1) := by
  funext b
  unfold dropF
  by_cases e : b = n
  · subst e; rw [if_pos rfl, if_pos ⟨by omega, h⟩]
  · rw [if_neg e]
    by_cases q : b < n ∧ P b
    · rw [if_pos q, if_pos ⟨by omega, q.2⟩]
    · rw [if_neg q, if_neg (fun z => q ⟨by omega, z.2⟩)]
theorem dropF_k (p : Nat → Int64) (P : Nat → Prop) {n : Nat} (h : ¬ P n) : dropF p P n = dropF p P (n + 1) := by
  funext b
  unfold dropF
  by_cases q : b < n ∧ P b
  · rw [if_pos q, if_pos ⟨by omega, q.2⟩]
  · rw [if_neg q, if_neg (fun z => q ⟨Nat.lt_of_le_of_ne (by omega) (fun y => h (y ▸ z.2)), z.2⟩)]
theorem dropF_in (p : Nat → Int64) (P : Nat → Prop) {n b : Nat} (h : b < n) (hP : P b) : dropF p P n b = -1 := by
  unfold dropF; exact if_pos ⟨h, hP⟩
theorem dropF_out (p : Nat → Int64) (P : Nat → Prop) {n b : Nat} (hP : ¬ P b) : dropF p P n b = p b := by
  unfold dropF; exact if_neg (fun q => hP q.2)
theorem c_dropFrom {S : St} {B : Nat} {t : Int64} (h0 : gi S 7 0 7 = nI B) (hB : B ≤ 30) (h1 : ∀ b, b < B → gr S 11 0 b = some b) {post : St → Prop} (hp : post (sP S (dropF (fun b => gj S 1 b 3) (fun b => ¬ gj S 1 b 3 < t) B))) : wp_X8_dropPressesFrom t S post := by
  refine ⟨B + 1, ?_⟩
  have key : ∀ d i, i + d = B → lp_X8_dropPressesFrom_2 t post (d + 1) (nI i) (sP S (dropF (fun b => gj S 1 b 3) (fun b => ¬ gj S 1 b 3 < t) i)) := by
    intro d
    induction d with
    | zero =>
      intro i hi
      have hi : i = B := by omega
      subst hi
      exact ⟨fun _ => hp, fun c => absurd (show gi S 7 0 7 ≤ nI i by rw [h0]; exact Int32.le_refl _) c⟩
    | succ d ih =>
      intro i hi
      have hlt : i < B := by omega
      refine ⟨fun c => absurd (show nI B ≤ nI i from h0 ▸ c) (nI_ge hlt (by omega)), fun _ => ?_⟩
      refine c_buyerAt0 (S := sP S _) (B := B) h0 hB hlt (h1 i hlt) ?_
      refine ⟨fun c => (by cases c), fun j e => ?_⟩
      cases e
      rw [gj_sP3, dropF_n _ _ (Nat.le_refl i)]
      refine ⟨fun c v ev => ?_, fun c S7 e7 v ev => ?_⟩
      · rw [ev, nI_1, dropF_k (fun b => gj S 1 b 3) (fun b => ¬ gj S 1 b 3 < t) (fun q => q c)]
        exact ih (i + 1) (by omega)
      · rw [ev, nI_1, e7, sP_sj, dropF_s (fun b => gj S 1 b 3) (fun b => ¬ gj S 1 b 3 < t) c]
        exact ih (i + 1) (by omega)
  have := key B 0 (by omega)
  rw [dropF_0, sP_id] at this
  exact this
theorem r_outLoop {S : St} {B : Nat} (h0 : gi S 8 0 12 = nI B) (hB : B ≤ 30) {post : Int32 → St → Prop} (hp : post 1 (sQ S (dropF (fun b => gj S 30 0 b) (fun b => ¬ gj S 30 0 b < gj S 8 0 18) B))) : ∃ n, lp_X9_outage_71 post n 0 S := by
  refine ⟨B + 1, ?_⟩
  have key : ∀ d i, i + d = B → lp_X9_outage_71 post (d + 1) (nI i) (sQ S (dropF (fun b => gj S 30 0 b) (fun b => ¬ gj S 30 0 b < gj S 8 0 18) i)) := by
    intro d
    induction d with
    | zero =>
      intro i hi
      have hi : i = B := by omega
      subst hi
      exact ⟨fun _ => hp, fun c => absurd (show gi S 8 0 12 ≤ nI i by rw [h0]; exact Int32.le_refl _) c⟩
    | succ d ih =>
      intro i hi
      have hlt : i < B := by omega
      have hin : vp_in (nI i) 30 := vp_in_nI (by omega) (by omega)
      refine ⟨fun c => absurd (show nI B ≤ nI i from h0 ▸ c) (nI_ge hlt (by omega)), fun _ => ⟨hin, ?_⟩⟩
      rw [nI_clamp (by omega), gj_sQ3, dropF_n _ _ (Nat.le_refl i)]
      refine ⟨fun c => ⟨hin, hin, fun S7 e7 v ev => ?_⟩, fun c => ⟨hin, fun S9 e9 v ev => ?_⟩⟩
      · rw [ev, nI_1, e7, sQ_sj]
        have e : (fun j => if j = i then gj S 30 0 i else dropF (fun b => gj S 30 0 b) (fun b => ¬ gj S 30 0 b < gj S 8 0 18) i j) = dropF (fun b => gj S 30 0 b) (fun b => ¬ gj S 30 0 b < gj S 8 0 18) (i + 1) := by
          rw [← dropF_k (fun b => gj S 30 0 b) (fun b => ¬ gj S 30 0 b < gj S 8 0 18) (n := i) (fun q => q c)]
          funext j
          by_cases z : j = i
          · subst z; rw [if_pos rfl, dropF_n _ _ (Nat.le_refl j)]
          · rw [if_neg z]
        rw [e]
        exact ih (i + 1) (by omega)
      · rw [ev, nI_1, e9, sQ_sj, dropF_s (fun b => gj S 30 0 b) (fun b => ¬ gj S 30 0 b < gj S 8 0 18) c]
        exact ih (i + 1) (by omega)
  have := key B 0 (by omega)
  rw [dropF_0, sQ_id] at this
  exact this
theorem r_startLoop {S : St} {v6 : Int64} {post : Int32 → St → Prop} (hp : post v6.toInt32 (sQ S (dropF (fun b => gj S 30 0 b) (fun _ => True) 30))) : ∃ n, lp_X9_start_134 v6 post n 0 S := by
  refine ⟨31, ?_⟩
  have key : ∀ d i, i + d = 30 → lp_X9_start_134 v6 post (d + 1) (nI i) (sQ S (dropF (fun b => gj S 30 0 b) (fun _ => True) i)) := by
    intro d
    induction d with
    | zero =>
      intro i hi
      have hi : i = 30 := by omega
      subst hi
      exact ⟨fun _ => hp, fun c => absurd (Int32.le_refl _) c⟩
    | succ d ih =>
      intro i hi
      have hlt : i < 30 := by omega
      have hin : vp_in (nI i) 30 := vp_in_nI (by omega) (by omega)
      refine ⟨fun c => absurd c (nI_ge (b := 30) hlt (by omega)), fun _ => ⟨hin, fun S9 e9 v ev => ?_⟩⟩
      rw [nI_clamp (by omega)] at e9
      rw [ev, nI_1, e9, sQ_sj, dropF_s (fun b => gj S 30 0 b) (fun _ => True) trivial]
      exact ih (i + 1) (by omega)
  have := key 30 0 (by omega)
  rw [dropF_0, sQ_id] at this
  exact this
