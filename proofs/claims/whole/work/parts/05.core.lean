/-! ===== the store: ints, longs, references (as numbers of objects), addresses, how many of each kind (99: the heap) ===== -/
abbrev St : Type := (Nat → Nat → Nat → Int32) × (Nat → Nat → Nat → Int64) × (Nat → Nat → Nat → Option Nat) × (Nat → Nat → Nat) × (Nat → Nat)
def gi (S : St) (k j f : Nat) : Int32 := S.1 k j f
def gj (S : St) (k j f : Nat) : Int64 := S.2.1 k j f
def gr (S : St) (k j f : Nat) : Option Nat := S.2.2.1 k j f
def ga (S : St) (k j : Nat) : Nat := S.2.2.2.1 k j
def gn (S : St) (k : Nat) : Nat := S.2.2.2.2 k
def up3 {α : Type} (F : Nat → Nat → Nat → α) (k j f : Nat) (v : α) : Nat → Nat → Nat → α := fun a b c => if a = k ∧ b = j ∧ c = f then v else F a b c
def si (S : St) (k j f : Nat) (v : Int32) : St := (up3 S.1 k j f v, S.2)
def sj (S : St) (k j f : Nat) (v : Int64) : St := (S.1, up3 S.2.1 k j f v, S.2.2)
def sr (S : St) (k j f : Nat) (v : Option Nat) : St := (S.1, S.2.1, up3 S.2.2.1 k j f v, S.2.2.2)
/-- one more object of kind k, with zeros, at the heap's end -/
def sn (S : St) (k : Nat) : St :=
  ((fun a b c => if a = k ∧ b = gn S k then 0 else S.1 a b c), (fun a b c => if a = k ∧ b = gn S k then 0 else S.2.1 a b c), (fun a b c => if a = k ∧ b = gn S k then none else S.2.2.1 a b c), (fun a b => if a = k ∧ b = gn S k then gn S 99 else S.2.2.2.1 a b), (fun a => if a = k ∨ a = 99 then S.2.2.2.2 a + 1 else S.2.2.2.2 a))
theorem gi_si (S : St) (k j f : Nat) (v : Int32) (a b c : Nat) : gi (si S k j f v) a b c = if a = k ∧ b = j ∧ c = f then v else gi S a b c := rfl
theorem gi_sj (S : St) (k j f : Nat) (v : Int64) (a b c : Nat) : gi (sj S k j f v) a b c = gi S a b c := rfl
theorem gi_sr (S : St) (k j f : Nat) (v : Option Nat) (a b c : Nat) : gi (sr S k j f v) a b c = gi S a b c := rfl
theorem gi_sn (S : St) (k : Nat) (a b c : Nat) : gi (sn S k) a b c = if a = k ∧ b = gn S k then 0 else gi S a b c := rfl
theorem gj_si (S : St) (k j f : Nat) (v : Int32) (a b c : Nat) : gj (si S k j f v) a b c = gj S a b c := rfl
theorem gj_sj (S : St) (k j f : Nat) (v : Int64) (a b c : Nat) : gj (sj S k j f v) a b c = if a = k ∧ b = j ∧ c = f then v else gj S a b c := rfl
theorem gj_sr (S : St) (k j f : Nat) (v : Option Nat) (a b c : Nat) : gj (sr S k j f v) a b c = gj S a b c := rfl
theorem gj_sn (S : St) (k : Nat) (a b c : Nat) : gj (sn S k) a b c = if a = k ∧ b = gn S k then 0 else gj S a b c := rfl
theorem gr_si (S : St) (k j f : Nat) (v : Int32) (a b c : Nat) : gr (si S k j f v) a b c = gr S a b c := rfl
theorem gr_sj (S : St) (k j f : Nat) (v : Int64) (a b c : Nat) : gr (sj S k j f v) a b c = gr S a b c := rfl
theorem gr_sr (S : St) (k j f : Nat) (v : Option Nat) (a b c : Nat) : gr (sr S k j f v) a b c = if a = k ∧ b = j ∧ c = f then v else gr S a b c := rfl
theorem gr_sn (S : St) (k : Nat) (a b c : Nat) : gr (sn S k) a b c = if a = k ∧ b = gn S k then none else gr S a b c := rfl
theorem gn_si (S : St) (k j f : Nat) (v : Int32) (a : Nat) : gn (si S k j f v) a = gn S a := rfl
theorem gn_sj (S : St) (k j f : Nat) (v : Int64) (a : Nat) : gn (sj S k j f v) a = gn S a := rfl
theorem gn_sr (S : St) (k j f : Nat) (v : Option Nat) (a : Nat) : gn (sr S k j f v) a = gn S a := rfl
theorem gn_sn (S : St) (k : Nat) (a : Nat) : gn (sn S k) a = if a = k ∨ a = 99 then gn S a + 1 else gn S a := rfl
theorem ga_sn (S : St) (k : Nat) (a b : Nat) : ga (sn S k) a b = if a = k ∧ b = gn S k then gn S 99 else ga S a b := rfl
def Ext (S S' : St) : Prop := ∀ k j, j < gn S k → j < gn S' k ∧ ga S' k j = ga S k j
theorem Ext.rf {S : St} : Ext S S := fun _ _ h => ⟨h, rfl⟩
theorem Ext.trans {S S1 S2 : St} (h1 : Ext S S1) (h2 : Ext S1 S2) : Ext S S2 := fun k j h => ⟨(h2 k j (h1 k j h).1).1, ((h2 k j (h1 k j h).1).2).trans (h1 k j h).2⟩
def AtO (S : St) (k j a : Nat) : Prop := j < gn S k ∧ ga S k j = a
theorem AtO.ext {S S' : St} {k j a : Nat} (h : AtO S k j a) (hx : Ext S S') : AtO S' k j a := ⟨(hx k j h.1).1, (hx k j h.1).2.trans h.2⟩
/-- only the row (k, j) may differ -/
def Upd (S S' : St) (k j : Nat) : Prop := (∀ k' j', ¬ (k' = k ∧ j' = j) → gi S' k' j' = gi S k' j' ∧ gj S' k' j' = gj S k' j' ∧ gr S' k' j' = gr S k' j') ∧ ga S' = ga S ∧ gn S' = gn S
theorem Upd.ext {S S' : St} {k j : Nat} (h : Upd S S' k j) : Ext S S' := fun a b hb => ⟨by rw [h.2.2]; exact hb, by rw [h.2.1]⟩
theorem upd_si (S : St) (k j f : Nat) (v : Int32) : Upd S (si S k j f v) k j := ⟨fun a b h => ⟨by funext c; exact (gi_si S k j f v a b c).trans (if_neg fun q => h ⟨q.1, q.2.1⟩), rfl, rfl⟩, rfl, rfl⟩
theorem upd_sj (S : St) (k j f : Nat) (v : Int64) : Upd S (sj S k j f v) k j := ⟨fun a b h => ⟨rfl, by funext c; exact (gj_sj S k j f v a b c).trans (if_neg fun q => h ⟨q.1, q.2.1⟩), rfl⟩, rfl, rfl⟩
theorem upd_sr (S : St) (k j f : Nat) (v : Option Nat) : Upd S (sr S k j f v) k j := ⟨fun a b h => ⟨rfl, rfl, by funext c; exact (gr_sr S k j f v a b c).trans (if_neg fun q => h ⟨q.1, q.2.1⟩)⟩, rfl, rfl⟩
/-! ===== the picture ===== -/
def pcM (cA : Nat → ClassId) (es : Nat → Nat) (ad : Nat → Nat → Nat) (k : Nat) (I : Nat → Int32) (J : Nat → Int64) (R : Nat → Option Nat) : va_E := match k with
  | 0 => .inr (0, [.int (I 0), .int (I 1), .long (J 2), .long (J 3)])
  | 1 => .inr (1, [.int (I 0), .long (J 1), .long (J 2), .long (J 3)])
  | 2 => .inr (2, [.ref (ad 13 0), .int (I 1), .int (I 2)])
  | 3 => .inr (3, [.int (I 0), .int (I 1), .int (I 2), .long (J 3), .int (I 4)])
  | 4 => .inr (4, [va_rf (Option.map (ad 5) (R 0)), .long (J 1), .long (J 2), .long (J 3), .long (J 4), .int (I 5)])
  | 5 => .inr (5, [.int (I 0), .int (I 1), .long (J 2), .long (J 3), va_rf (Option.map es (R 4)), .int (I 5), .long (J 6), .long (J 7), .int (I 8), .int (I 9), .int (I 10), .int (I 11)])
  | 6 => .inr (6, [.ref (ad 14 0), .ref (ad 15 0), .ref (ad 16 0), .int (I 3), .int (I 4), .long (J 5)])
  | 7 => .inr (7, [.ref (ad 10 0), .ref (ad 11 0), .ref (ad 12 0), .ref (ad 4 0), .ref (ad 2 0), .ref (ad 6 0), .int (I 6), .int (I 7), .int (I 8), .long (J 9), .int (I 10)])
  | 8 => .inr (8, [.int (I 0), .ref (ad 17 0), .ref (ad 18 0), .ref (ad 19 0), .ref (ad 20 0), .ref (ad 21 0), .ref (ad 22 0), .ref (ad 23 0), .ref (ad 24 0), .ref (ad 25 0), .ref (ad 26 0), .ref (ad 27 0), .int (I 12), .ref (ad 28 0), .ref (ad 29 0), .ref (ad 30 0), .long (J 16), .int (I 17), .long (J 18), .long (J 19), .long (J 20), .long (J 21), .int (I 22), .int (I 23), .ref (ad 31 0), .ref (ad 32 0), .ref (ad 33 0), .int (I 27), .long (J 28), .int (I 29), .int (I 30), .ref (ad 34 0), .ref (ad 35 0), .ref (ad 36 0), .ref (ad 37 0), .ref (ad 38 0)])
  | 10 => .inl (cA 10, (60, .inr (.inr (.inr (.inr (fun e => Option.map (ad 5) (R e)))))))
  | 11 => .inl (cA 11, (30, .inr (.inr (.inr (.inr (fun e => Option.map (ad 1) (R e)))))))
  | 12 => .inl (cA 12, (18, .inr (.inr (.inr (.inr (fun e => Option.map (ad 0) (R e)))))))
  | 13 => .inl (cA 13, (240, .inr (.inr (.inr (.inr (fun e => Option.map (ad 3) (R e)))))))
  | 14 => .inl (cA 14, (18, .inr (.inr (.inr (.inr (fun e => Option.map (ad 0) (R e)))))))
  | 15 => .inl (cA 15, (19, .inr (.inl J)))
  | 16 => .inl (cA 16, (30, .inr (.inl J)))
  | 17 => .inl (cA 17, (60, .inl I))
  | 18 => .inl (cA 18, (60, .inr (.inl J)))
  | 19 => .inl (cA 19, (60, .inr (.inl J)))
  | 20 => .inl (cA 20, (60, .inl I))
  | 21 => .inl (cA 21, (60, .inl I))
  | 22 => .inl (cA 22, (60, .inr (.inl J)))
  | 23 => .inl (cA 23, (60, .inl I))
  | 24 => .inl (cA 24, (60, .inl I))
  | 25 => .inl (cA 25, (60, .inl I))
  | 26 => .inl (cA 26, (60, .inr (.inl J)))
  | 27 => .inl (cA 27, (60, .inl I))
  | 28 => .inl (cA 28, (30, .inr (.inl J)))
  | 29 => .inl (cA 29, (30, .inr (.inl J)))
  | 30 => .inl (cA 30, (30, .inr (.inl J)))
  | 31 => .inl (cA 31, (18, .inl I))
  | 32 => .inl (cA 32, (18, .inr (.inl J)))
  | 33 => .inl (cA 33, (18, .inr (.inl J)))
  | 34 => .inl (cA 34, (1024, .inl I))
  | 35 => .inl (cA 35, (1024, .inl I))
  | 36 => .inl (cA 36, (1024, .inl I))
  | 37 => .inl (cA 37, (1024, .inr (.inl J)))
  | 38 => .inl (cA 38, (1024, .inl I))
  | _ => .inr (0, [])
def tysM (cA : Nat → ClassId) : List (ClassId × FieldType) := [(cA 10, .object "ClockAuctions$Lot"), (cA 11, .object "ClockAuctions$Buyer"), (cA 12, .object "ClockAuctions$Bid"), (cA 13, .object "ClockAuctions$Entry"), (cA 14, .object "ClockAuctions$Bid"), (cA 15, .long), (cA 16, .long), (cA 17, .int), (cA 18, .long), (cA 19, .long), (cA 20, .int), (cA 21, .int), (cA 22, .long), (cA 23, .boolean), (cA 24, .boolean), (cA 25, .boolean), (cA 26, .long), (cA 27, .int), (cA 28, .long), (cA 29, .long), (cA 30, .long), (cA 31, .int), (cA 32, .long), (cA 33, .long), (cA 34, .int), (cA 35, .int), (cA 36, .int), (cA 37, .long), (cA 38, .int)]
def kB (n : Nat → Nat) (k : Nat) : Nat := match k with
  | 5 => 6
  | 4 => n 5
  | 10 => n 5
  | 11 => n 1
  | 12 => n 0
  | 13 => n 3
  | 14 => n 0
  | _ => 0
abbrev GT : Type := va_G × Nat × (Nat → ClassId) × (Nat → Nat)
def pcS (G : GT) (S : St) (k j : Nat) : va_E := pcM G.2.2.1 G.2.2.2 (ga S) k (gi S k j) (gj S k j) (gr S k j)
def stN (j : Nat) : String := match j with
  | 0 => "OPEN"
  | 1 => "ON"
  | 2 => "OFFERED"
  | 3 => "SOLD"
  | 4 => "UNSOLD"
  | _ => "BACK"
def pwFix (k : Nat) : Prop := k < 39 ∧ k ≠ 0 ∧ k ≠ 1 ∧ k ≠ 3 ∧ k ≠ 5 ∧ k ≠ 9
def PW (G : GT) (S : St) (U : State) (H : Heap) : Prop :=
  (H.size = gn S 99 ∧ G.2.1 ≤ H.size) ∧
  (∀ k j, k < 39 → k ≠ 9 → j < gn S k → va_at G.1 vwCl (ga S k j, pcS G S k j) H ∧ G.2.1 ≤ ga S k j) ∧
  (∀ k j k' j', k < 39 → k' < 39 → k ≠ 9 → k' ≠ 9 → j < gn S k → j' < gn S k' → ga S k j = ga S k' j' → k = k' ∧ j = j') ∧
  (∀ k j f i, gr S k j f = some i → i < kB (gn S) k) ∧
  (∀ k, pwFix k → 0 < gn S k) ∧
  (∀ i j, i < 6 → j < 6 → G.2.2.2 i = G.2.2.2 j → i = j) ∧
  va_K G.1 vwCl (tysM G.2.2.1) U ∧
  (∀ j, j < 6 → va_Z "ClockAuctions$State" (stN j) "LClockAuctions$State;" (.ref (G.2.2.2 j)) (fun q => G.2.1 ≤ q) U H)
theorem PW.K {G : GT} {S : St} {U : State} {H : Heap} (h : PW G S U H) : va_K G.1 vwCl (tysM G.2.2.1) U := h.2.2.2.2.2.2.1
theorem PW.moved {G : GT} {S : St} {U U' : State} {H : Heap} (hvm : U.vm.Alike U'.vm) (h : PW G S U H) : PW G S U' H :=
  ⟨h.1, h.2.1, h.2.2.1, h.2.2.2.1, h.2.2.2.2.1, h.2.2.2.2.2.1, va_K.moved hvm h.K, fun j hj => va_Z.moved hvm (h.2.2.2.2.2.2.2 j hj)⟩
theorem PW.upd {G : GT} {S S' : St} {U : State} {H H1 : Heap} (h : PW G S U H) {k j : Nat} (hk : k < 39) (hk9 : k ≠ 9) (hj : j < gn S k) (hU : Upd S S' k j) (hat : va_at G.1 vwCl (ga S k j, pcS G S' k j) H1) (z : H1.size = H.size) (oq : ∀ q, q ≠ ga S k j → H1[q]? = H[q]?) (hwf : ∀ k j f i, gr S' k j f = some i → i < kB (gn S') k) : PW G S' U H1 := by
  obtain ⟨hI, hA, hN⟩ := hU
  obtain ⟨h1, h2, h3, h4, h5, h6, h7, h8⟩ := h
  refine ⟨⟨by rw [z, hN]; exact h1.1, by rw [z]; exact h1.2⟩, fun k' j' a b c => ?_, fun k1 j1 k2 j2 => by rw [hA, hN]; exact h3 k1 j1 k2 j2, hwf, fun k' hk' => by rw [hN]; exact h5 k' hk', h6, h7, fun i hi => (h8 i hi).kept fun q hq hb => oq q fun e => hb (by rw [e]; exact (h2 k j hk hk9 hj).2)⟩
  rw [hN] at c
  rw [hA]
  by_cases e : k' = k ∧ j' = j
  · obtain ⟨rfl, rfl⟩ := e
    exact ⟨hat, (h2 k' j' a b c).2⟩
  · have e2 : pcS G S' k' j' = pcS G S k' j' := by
      unfold pcS
      rw [hA, (hI k' j' e).1, (hI k' j' e).2.1, (hI k' j' e).2.2]
    rw [e2]
    obtain ⟨q1, q2⟩ := h2 k' j' a b c
    exact ⟨q1.kept (oq _ fun z => e (h3 k' j' k j a hk b hk9 c hj z)), q2⟩
theorem pw_wf {G : GT} {S : St} {U : State} {H : Heap} (h : PW G S U H) : ∀ k j f i, gr S k j f = some i → i < kB (gn S) k := h.2.2.2.1
theorem wf_same {S S' : St} (h : ∀ k j f i, gr S k j f = some i → i < kB (gn S) k) (e1 : S'.2.2.1 = S.2.2.1) (e2 : S'.2.2.2.2 = S.2.2.2.2) : ∀ k j f i, gr S' k j f = some i → i < kB (gn S') k := fun k j f i q => by
  have e3 : gr S' = gr S := e1
  have e4 : gn S' = gn S := e2
  rw [e3] at q
  rw [e4]
  exact h k j f i q
theorem wf_sr {S : St} {k j f : Nat} {v : Option Nat} (h : ∀ k j f i, gr S k j f = some i → i < kB (gn S) k) (hv : ∀ i, v = some i → i < kB (gn S) k) : ∀ k' j' f' i, gr (sr S k j f v) k' j' f' = some i → i < kB (gn (sr S k j f v)) k' := fun k' j' f' i q => by
  rw [gr_sr] at q
  by_cases e : k' = k ∧ j' = j ∧ f' = f
  · rw [if_pos e] at q
    obtain ⟨rfl, rfl, rfl⟩ := e
    exact hv i q
  · rw [if_neg e] at q
    exact h k' j' f' i q
/-- all fields of an object, or an array's elements, are as they were, but the world is a larger one -/
theorem kB_mono {n n' : Nat → Nat} (h : ∀ k, n k ≤ n' k) (k : Nat) : kB n k ≤ kB n' k := by
  unfold kB
  split <;> first | exact Nat.le_refl _ | exact h _
/-- the whole world, and what was there before -/
def WW (G : GT) (S : St) (s : State) (H : Heap) (locs : List Loc) : Prop := PW G S s H ∧ va_S (fun q => G.2.1 ≤ q) s.heap H locs
abbrev CX (p : Program) (m : MethodId) (c : Code) (cc : ByteArray) (nL : Nat) (s : State) (args : Array Value) (own : String) : Prop := CallFix p m c cc nL s args wT own
section ROWS
variable {p : Program} {l : Launch} {e : Env} {R : Room} {s : State} {m : MethodId} {args : Array Value} {below : List Frame} {meth : Method} {c : Code} {H : Heap} {locs : List Loc} {cells slots : Nat} {Q : State → Prop}
variable {cc : ByteArray} {pc nL : Nat} {ls : Array Slot} {rest : List Value} {G : GT} {S : St} {own : String} {a j : Nat}
theorem W.tight {g : JFrame} {k : Nat} (hsz : H.size ≤ s.heap.size + k) (kk : W p l e R s m args below meth c H locs k slots Q g) : W p l e R s m args below meth c H locs cells slots Q g :=
  fun T hT X => kk T hT { X with same := ⟨X.same.1, X.same.2.1, by show T.heap.size ≤ _; rw [hT]; exact hsz, X.same.2.2.2⟩ }
theorem pw_one {k : Nat} (hw : WW G S s H locs) (hk : k < 39) (hk9 : k ≠ 9) (ha : AtO S k j a) : va_P G.1 vwCl [(a, pcS G S k j)] H := fun i q hq => by
  obtain ⟨hj, rfl⟩ := ha
  cases i with
  | zero =>
    have h := Option.some.inj hq
    subst h
    exact (hw.1.2.1 k j hk hk9 hj).1
  | succ i => simp at hq
theorem pw_get (F : CX p m c cc nL s args own) (hw : WW G S s H locs) (k : Nat) (hk : k < 39) (hk9 : k ≠ 9) (ha : AtO S k j a) {ref C : String} {T : u_T} {N ci index : Nat} (hin : ∀ w ∈ u_ws C T N, w ∈ wT) {fs : List Value} (he : pcS G S k j = .inr (ci, fs)) (hc : vwCl[ci]? = some (C, T, N)) (f : Nat) (hf : f < N) (hl : Cond.fieldLink own index ref (T f).2.1 (T f).2.2.1 ∈ wT) (hsame : ∀ x, s.fieldFound? (T f).1 (T f).2.1 (T f).2.2.1 = some x → s.fieldFound? ref (T f).2.1 (T f).2.2.1 = some x) {v : Value} (hv : fs[f]? = some v) (hdg : decode cc pc = .ok (.getfield index, 3))
    (kk : W p l e R s m args below meth c H locs cells slots Q (F0 m (pc + 3) ls (v :: rest))) : W p l e R s m args below meth c H locs cells slots Q (F0 m pc ls (.ref a :: rest)) :=
  va_get (D := G.1) (cl := vwCl) (ci := ci) (C := C) (T := T) (N := N) F.1 F.2.1 F.2.2.2.2 hin F.2.2.2.1 hw.1.K (pw_one hw hk hk9 ha) 0 (by rw [he]; rfl) hc f hf (F.2.2.2.2 _ hl) hsame hv hdg kk
theorem pw_put (F : CX p m c cc nL s args own) (hw : WW G S s H locs) (k : Nat) (hk : k < 39) (hk9 : k ≠ 9) (ha : AtO S k j a) {ref C : String} {T : u_T} {N ci index : Nat} (hin : ∀ w ∈ u_ws C T N, w ∈ wT) (ty0 : Nat → FieldType) (hty : ∀ k, k < N → parseFieldDescriptor (T k).2.2.1 = some (ty0 k)) (hnm : ∀ a, a < N → ∀ b, b < N → a ≠ b → (T a).2.1 ≠ (T b).2.1) {fs : List Value} (he : pcS G S k j = .inr (ci, fs)) (hc : vwCl[ci]? = some (C, T, N)) (f : Nat) (hf : f < N) (hl : Cond.fieldLink own index ref (T f).2.1 (T f).2.2.1 ∈ wT) (hsame : ∀ x, s.fieldFound? (T f).1 (T f).2.1 (T f).2.2.1 = some x → s.fieldFound? ref (T f).2.1 (T f).2.2.1 = some x)
    (hfin : (T f).2.2.2 = false) {ty : FieldType} {v : Value} (hd : parseFieldDescriptor (T f).2.2.1 = some ty) (hn : narrow ty v = v) (hfit : fits ty v = true) (hlen : f < fs.length) {S' : St} (hE : pcS G S' k j = .inr (ci, fs.set f v)) (hU : Upd S S' k j) (hwf : ∀ k j f i, gr S' k j f = some i → i < kB (gn S') k) (hdg : decode cc pc = .ok (.putfield index, 3))
    (kk : ∀ (H1 : Heap) (locs1 : List Loc), WW G S' s H1 locs1 → Ext S S' → W p l e R s m args below meth c H1 locs1 cells slots Q (F0 m (pc + 3) ls rest)) : W p l e R s m args below meth c H locs cells slots Q (F0 m pc ls (v :: .ref a :: rest)) := by
  obtain ⟨hx, hb, hml, hown, hts⟩ := F
  obtain ⟨hP, hS⟩ := hw
  have hap := va_apart (own := own) hts hin ty0 hty hnm hP.K hc
  obtain ⟨hj, rfl⟩ := ha
  obtain ⟨hat, hbs⟩ := hP.2.1 k j hk hk9 hj
  rw [he] at hat
  obtain ⟨r, h1, cell, q1, q2, q3, q4⟩ := hat
  have hr : r = (C, T, N) := Option.some.inj (h1.symm.trans hc)
  subst hr
  obtain ⟨hSl, hfc, kC, hkC, hkind⟩ := hP.K.1 ci _ hc
  obtain ⟨cf, kf, fi, fd, hi, hsl⟩ := hSl f hf
  have hlay := hts _ (hin _ (u_in_lay hf))
  unfold u_lay at hlay
  rw [if_neg (by rw [hfin]; decide)] at hlay
  have hst := (u_facts hfc hkC (u_lays hts hin hf) hi).1
  have h6 := u_store hfc hkC hkind hlay hi hd hn hfit
  refine W.putK hx hb (f := fd) ⟨hown, hts _ hl, ⟨_, _, _, hsame _ hi⟩, hst⟩ (by rw [q2]; exact h6) q1 q3 (by rw [hsl]; exact k2_hasslot (q4 f hf)) rfl rfl hdg fun H' e1 e2 e3 => ?_
  rw [hsl] at e1 ⊢
  refine kk H' _ ⟨hP.upd hk hk9 hj hU ?_ e2 e3 hwf, hS.put e2 e3 hbs⟩ hU.ext
  rw [hE]
  exact ⟨_, hc, t_OB.to (V := updV (vp_V fs) f v) ⟨_, e1, q2, q3, t_set q4 hap hf v⟩ (fun j _ => vp_updV_set hlen v j)⟩
theorem pw_putF (F : CX p m c cc nL s args own) (hw : WW G S s H locs) (k : Nat) (hk : k < 39) (hk9 : k ≠ 9) (ha : AtO S k j a) {ref C : String} {T : u_T} {N ci index : Nat} (hin : ∀ w ∈ u_ws C T N, w ∈ wT) (ty0 : Nat → FieldType) (hty : ∀ k, k < N → parseFieldDescriptor (T k).2.2.1 = some (ty0 k)) (hnm : ∀ a, a < N → ∀ b, b < N → a ≠ b → (T a).2.1 ≠ (T b).2.1) {fs : List Value} (he : pcS G S k j = .inr (ci, fs)) (hc : vwCl[ci]? = some (C, T, N)) (f : Nat) (hf : f < N) (hl : Cond.fieldLink own index ref (T f).2.1 (T f).2.2.1 ∈ wT) (hsame : ∀ x, s.fieldFound? (T f).1 (T f).2.1 (T f).2.2.1 = some x → s.fieldFound? ref (T f).2.1 (T f).2.2.1 = some x)
    (hfin : (T f).2.2.2 = true) (hin2 : meth.name = "<init>") (hdecl : (T f).1 = own) {ty : FieldType} {v : Value} (hd : parseFieldDescriptor (T f).2.2.1 = some ty) (hn : narrow ty v = v) (hfit : fits ty v = true) (hlen : f < fs.length) {S' : St} (hE : pcS G S' k j = .inr (ci, fs.set f v)) (hU : Upd S S' k j) (hwf : ∀ k j f i, gr S' k j f = some i → i < kB (gn S') k) (hdg : decode cc pc = .ok (.putfield index, 3))
    (kk : ∀ (H1 : Heap) (locs1 : List Loc), WW G S' s H1 locs1 → Ext S S' → W p l e R s m args below meth c H1 locs1 cells slots Q (F0 m (pc + 3) ls rest)) : W p l e R s m args below meth c H locs cells slots Q (F0 m pc ls (v :: .ref a :: rest)) := by
  obtain ⟨hx, hb, hml, hown, hts⟩ := F
  obtain ⟨hP, hS⟩ := hw
  have hap := va_apart (own := own) hts hin ty0 hty hnm hP.K hc
  obtain ⟨hj, rfl⟩ := ha
  obtain ⟨hat, hbs⟩ := hP.2.1 k j hk hk9 hj
  rw [he] at hat
  obtain ⟨r, h1, cell, q1, q2, q3, q4⟩ := hat
  have hr : r = (C, T, N) := Option.some.inj (h1.symm.trans hc)
  subst hr
  obtain ⟨hSl, hfc, kC, hkC, hkind⟩ := hP.K.1 ci _ hc
  obtain ⟨cf, kf, fi, fd, hi, hsl⟩ := hSl f hf
  have hlay := hts _ (hin _ (u_in_lay hf))
  unfold u_lay at hlay
  rw [if_pos hfin] at hlay
  have hst := (u_facts hfc hkC (u_lays hts hin hf) hi).1
  have hcf : m.cls = cf := by
    obtain ⟨_, _, c', _, _, _, -, -, hf', -, -, -, hown2, -⟩ := Cond.laysFinal_spec hlay
    have e1 : c' = cf := by have := hi.symm.trans hf'; simp at this; exact this.1.symm
    rw [hdecl] at hown2
    rw [← e1]; exact Option.some.inj (hown.symm.trans hown2)
  have h6 := u_fits hfc hkC hkind (Or.inr hlay) hi hd hn hfit
  refine W.putFinK hx hb hown (hts _ hl) (hsame _ hi) hst hcf hin2 (by rw [q2]; exact h6) q1 q3 (by rw [hsl]; exact k2_hasslot (q4 f hf)) rfl rfl hdg fun H' e1 e2 e3 => ?_
  rw [hsl] at e1 ⊢
  refine kk H' _ ⟨hP.upd hk hk9 hj hU ?_ e2 e3 hwf, hS.put e2 e3 hbs⟩ hU.ext
  rw [hE]
  exact ⟨_, hc, t_OB.to (V := updV (vp_V fs) f v) ⟨_, e1, q2, q3, t_set q4 hap hf v⟩ (fun j _ => vp_updV_set hlen v j)⟩
theorem pw_recv (hw : WW G S s H locs) (k : Nat) (hk : k < 39) (hk9 : k ≠ 9) (ha : AtO S k j a) {ci : Nat} {q : vw_C} {fs : List Value} (he : pcS G S k j = .inr (ci, fs)) (hc : vwCl[ci]? = some q) : ∃ cell : Cell, H[a]? = some cell ∧ cell.vm.isStatics = false ∧ s.vm.findClass q.1 = some cell.cls :=
  va_recv (D := G.1) (cl := vwCl) hw.1.K (pw_one hw hk hk9 ha) (q0 := 0) (ci := ci) (fs := fs) hc (by rw [he]; rfl)
/-! arrays -/
theorem pw_arr (hw : WW G S s H locs) (k : Nat) (hk : k < 39) (hk9 : k ≠ 9) (ha : AtO S k j a) {cA : ClassId} {A : vp_A} (he : pcS G S k j = .inl (cA, A)) : H[a]? = some (vp_cell cA A) := by
  obtain ⟨hj, rfl⟩ := ha
  have h := (hw.1.2.1 k j hk hk9 hj).1
  rw [he] at h
  exact h
theorem pw_iald (F : CX p m c cc nL s args own) (hw : WW G S s H locs) (k t : Nat) (hk : k < 39) (hk9 : k ≠ 9) (ha : AtO S k j a) {n : Nat} (he : pcS G S k j = .inl (G.2.2.1 k, (n, .inl (gi S k j)))) (ht : (tysM G.2.2.1)[t]? = some (G.2.2.1 k, .int)) {i : Int32} (hin : vp_in i n) (hdg : decode cc pc = .ok (.iaload, 1))
    (kk : W p l e R s m args below meth c H locs cells slots Q (F0 m (pc + 1) ls (.int (gi S k j i.toNatClampNeg) :: rest))) : W p l e R s m args below meth c H locs cells slots Q (F0 m pc ls (.int i :: .ref a :: rest)) :=
  va_iald (D := G.1) (cl := vwCl) F.1 F.2.1 hw.1.K (pw_one hw hk hk9 ha) 0 t (by rw [he]; rfl) ht hin hdg kk
theorem pw_zald (F : CX p m c cc nL s args own) (hw : WW G S s H locs) (k t : Nat) (hk : k < 39) (hk9 : k ≠ 9) (ha : AtO S k j a) {n : Nat} (he : pcS G S k j = .inl (G.2.2.1 k, (n, .inl (gi S k j)))) (ht : (tysM G.2.2.1)[t]? = some (G.2.2.1 k, .boolean)) {i : Int32} (hin : vp_in i n) (hdg : decode cc pc = .ok (.baload, 1))
    (kk : W p l e R s m args below meth c H locs cells slots Q (F0 m (pc + 1) ls (.int (gi S k j i.toNatClampNeg) :: rest))) : W p l e R s m args below meth c H locs cells slots Q (F0 m pc ls (.int i :: .ref a :: rest)) :=
  va_zald (D := G.1) (cl := vwCl) F.1 F.2.1 hw.1.K (pw_one hw hk hk9 ha) 0 t (by rw [he]; rfl) ht hin hdg kk
theorem pw_lald (F : CX p m c cc nL s args own) (hw : WW G S s H locs) (k t : Nat) (hk : k < 39) (hk9 : k ≠ 9) (ha : AtO S k j a) {n : Nat} (he : pcS G S k j = .inl (G.2.2.1 k, (n, .inr (.inl (gj S k j))))) (ht : (tysM G.2.2.1)[t]? = some (G.2.2.1 k, .long)) {i : Int32} (hin : vp_in i n) (hdg : decode cc pc = .ok (.laload, 1))
    (kk : W p l e R s m args below meth c H locs cells slots Q (F0 m (pc + 1) ls (.long (gj S k j i.toNatClampNeg) :: rest))) : W p l e R s m args below meth c H locs cells slots Q (F0 m pc ls (.int i :: .ref a :: rest)) :=
  va_lald (D := G.1) (cl := vwCl) F.1 F.2.1 hw.1.K (pw_one hw hk hk9 ha) 0 t (by rw [he]; rfl) ht hin hdg kk
theorem pw_aald (F : CX p m c cc nL s args own) (hw : WW G S s H locs) (k t k2 : Nat) (hk : k < 39) (hk9 : k ≠ 9) (ha : AtO S k j a) {n : Nat} {C : String} (he : pcS G S k j = .inl (G.2.2.1 k, (n, .inr (.inr (.inr (.inr (fun e => Option.map (ga S k2) (gr S k j e)))))))) (hkb : kB (gn S) k = gn S k2) (ht : (tysM G.2.2.1)[t]? = some (G.2.2.1 k, .object C)) {i : Int32} (hin : vp_in i n) (hdg : decode cc pc = .ok (.aaload, 1))
    (kn : gr S k j i.toNatClampNeg = none → W p l e R s m args below meth c H locs cells slots Q (F0 m (pc + 1) ls (.null :: rest)))
    (ks : ∀ j2 a2 : Nat, gr S k j i.toNatClampNeg = some j2 → AtO S k2 j2 a2 → W p l e R s m args below meth c H locs cells slots Q (F0 m (pc + 1) ls (.ref a2 :: rest))) : W p l e R s m args below meth c H locs cells slots Q (F0 m pc ls (.int i :: .ref a :: rest)) := by
  refine va_aldq (D := G.1) (cl := vwCl) (C := C) F.1 F.2.1 hw.1.K (pw_one hw hk hk9 ha) 0 t (by rw [he]; rfl) ht hin hdg ?_
  cases hr : gr S k j i.toNatClampNeg with
  | none => exact kn hr
  | some j2 => exact ks j2 _ hr ⟨by rw [← hkb]; exact pw_wf hw.1 _ _ _ _ hr, rfl⟩
theorem pw_alen (F : CX p m c cc nL s args own) (hw : WW G S s H locs) (k t : Nat) (hk : k < 39) (hk9 : k ≠ 9) (ha : AtO S k j a) {A : vp_A} (he : pcS G S k j = .inl (G.2.2.1 k, A)) {ty : FieldType} (ht : (tysM G.2.2.1)[t]? = some (G.2.2.1 k, ty)) {v : Int32} (hv : Int32.ofNat A.1 = v) (hdg : decode cc pc = .ok (.arraylength, 1))
    (kk : W p l e R s m args below meth c H locs cells slots Q (F0 m (pc + 1) ls (.int v :: rest))) : W p l e R s m args below meth c H locs cells slots Q (F0 m pc ls (.ref a :: rest)) :=
  va_alen (D := G.1) (cl := vwCl) F.1 F.2.1 hw.1.K (pw_one hw hk hk9 ha) 0 t (by rw [he]; rfl) ht hv hdg kk
theorem pw_iast (F : CX p m c cc nL s args own) (hw : WW G S s H locs) (k t : Nat) (hk : k < 39) (hk9 : k ≠ 9) (ha : AtO S k j a) {n : Nat} (he : ∀ S : St, pcS G S k j = .inl (G.2.2.1 k, (n, .inl (gi S k j)))) (ht : (tysM G.2.2.1)[t]? = some (G.2.2.1 k, .int)) {i x : Int32} (hin : vp_in i n) (hdg : decode cc pc = .ok (.iastore, 1))
    (kk : ∀ (S1 : St) (H1 : Heap) (locs1 : List Loc), S1 = si S k j i.toNatClampNeg x → WW G S1 s H1 locs1 → Ext S S1 → W p l e R s m args below meth c H1 locs1 cells slots Q (F0 m (pc + 1) ls rest)) : W p l e R s m args below meth c H locs cells slots Q (F0 m pc ls (.int x :: .int i :: .ref a :: rest)) := by
  have h0 := pw_arr hw k hk hk9 ha (he S)
  have hlt : i.toNatClampNeg < n := Nat.not_le.mp fun q => hin (Or.inr q)
  have hU := upd_si S k j i.toNatClampNeg x
  obtain ⟨hj, rfl⟩ := ha
  refine W.iast F.1 F.2.1 h0 ((hw.1.K.2 t _ ht).1 n (fun j2 => .int (gi S k j j2))) (fun q => by cases q) (by show ¬ (i < 0 ∨ (arrV _ _ _).slots.size ≤ _); rw [arrV_size]; exact hin) rfl rfl hdg fun H1 e z oq => ?_
  refine kk _ H1 _ rfl ⟨hw.1.upd hk hk9 hj hU ?_ z oq (wf_same (pw_wf hw.1) rfl rfl), hw.2.put z oq (hw.1.2.1 k j hk hk9 hj).2⟩ hU.ext
  rw [he]
  show H1[ga S k j]? = some (vp_cell _ _)
  rw [e, vp_cell_i, vp_cell_i, arrV_store]
  congr 2
  funext q
  by_cases hq : q = i.toNatClampNeg
  · subst hq
    simp [updV, gi_si]
  · simp [updV, gi_si, hq]
theorem pw_zast (F : CX p m c cc nL s args own) (hw : WW G S s H locs) (k t : Nat) (hk : k < 39) (hk9 : k ≠ 9) (ha : AtO S k j a) {n : Nat} (he : ∀ S : St, pcS G S k j = .inl (G.2.2.1 k, (n, .inl (gi S k j)))) (ht : (tysM G.2.2.1)[t]? = some (G.2.2.1 k, .boolean)) {i x : Int32} (hin : vp_in i n) (hx : narrow .boolean (.int x) = .int x) (hdg : decode cc pc = .ok (.bastore, 1))
    (kk : ∀ (S1 : St) (H1 : Heap) (locs1 : List Loc), S1 = si S k j i.toNatClampNeg x → WW G S1 s H1 locs1 → Ext S S1 → W p l e R s m args below meth c H1 locs1 cells slots Q (F0 m (pc + 1) ls rest)) : W p l e R s m args below meth c H locs cells slots Q (F0 m pc ls (.int x :: .int i :: .ref a :: rest)) := by
  have h0 := pw_arr hw k hk hk9 ha (he S)
  have hlt : i.toNatClampNeg < n := Nat.not_le.mp fun q => hin (Or.inr q)
  have hU := upd_si S k j i.toNatClampNeg x
  obtain ⟨hj, rfl⟩ := ha
  refine W.zast F.1 F.2.1 h0 ((hw.1.K.2 t _ ht).1 n (fun j2 => .int (gi S k j j2))) (fun q => by cases q) (by show ¬ (i < 0 ∨ (arrV _ _ _).slots.size ≤ _); rw [arrV_size]; exact hin) rfl rfl hdg fun H1 e z oq => ?_
  refine kk _ H1 _ rfl ⟨hw.1.upd hk hk9 hj hU ?_ z oq (wf_same (pw_wf hw.1) rfl rfl), hw.2.put z oq (hw.1.2.1 k j hk hk9 hj).2⟩ hU.ext
  rw [he]
  show H1[ga S k j]? = some (vp_cell _ _)
  rw [e, hx, vp_cell_i, vp_cell_i, arrV_store]
  congr 2
  funext q
  by_cases hq : q = i.toNatClampNeg
  · subst hq
    simp [updV, gi_si]
  · simp [updV, gi_si, hq]
theorem pw_last (F : CX p m c cc nL s args own) (hw : WW G S s H locs) (k t : Nat) (hk : k < 39) (hk9 : k ≠ 9) (ha : AtO S k j a) {n : Nat} (he : ∀ S : St, pcS G S k j = .inl (G.2.2.1 k, (n, .inr (.inl (gj S k j))))) (ht : (tysM G.2.2.1)[t]? = some (G.2.2.1 k, .long)) {i : Int32} {x : Int64} (hin : vp_in i n) (hdg : decode cc pc = .ok (.lastore, 1))
    (kk : ∀ (S1 : St) (H1 : Heap) (locs1 : List Loc), S1 = sj S k j i.toNatClampNeg x → WW G S1 s H1 locs1 → Ext S S1 → W p l e R s m args below meth c H1 locs1 cells slots Q (F0 m (pc + 1) ls rest)) : W p l e R s m args below meth c H locs cells slots Q (F0 m pc ls (.long x :: .int i :: .ref a :: rest)) := by
  have h0 := pw_arr hw k hk hk9 ha (he S)
  have hlt : i.toNatClampNeg < n := Nat.not_le.mp fun q => hin (Or.inr q)
  have hU := upd_sj S k j i.toNatClampNeg x
  obtain ⟨hj, rfl⟩ := ha
  refine W.last F.1 F.2.1 h0 ((hw.1.K.2 t _ ht).1 n (fun j2 => .long (gj S k j j2))) (fun q => by cases q) (by show ¬ (i < 0 ∨ (arrV _ _ _).slots.size ≤ _); rw [arrV_size]; exact hin) rfl rfl hdg fun H1 e z oq => ?_
  refine kk _ H1 _ rfl ⟨hw.1.upd hk hk9 hj hU ?_ z oq (wf_same (pw_wf hw.1) rfl rfl), hw.2.put z oq (hw.1.2.1 k j hk hk9 hj).2⟩ hU.ext
  rw [he]
  show H1[ga S k j]? = some (vp_cell _ _)
  rw [e, vp_cell_l, vp_cell_l, arrV_store]
  congr 2
  funext q
  by_cases hq : q = i.toNatClampNeg
  · subst hq
    simp [updV, gj_sj]
  · simp [updV, gj_sj, hq]
theorem pw_aast (F : CX p m c cc nL s args own) (hw : WW G S s H locs) (k t k2 : Nat) {j2 a2 : Nat} (hk : k < 39) (hk9 : k ≠ 9) (hk2 : k2 < 39) (hk29 : k2 ≠ 9) (ha : AtO S k j a) (ha2 : AtO S k2 j2 a2) {n ci : Nat} {r : vw_C} {vs : List Value} (he : ∀ S : St, pcS G S k j = .inl (G.2.2.1 k, (n, .inr (.inr (.inr (.inr (fun e => Option.map (ga S k2) (gr S k j e)))))))) (he2 : pcS G S k2 j2 = .inr (ci, vs)) (hc : vwCl[ci]? = some r) (hkb : kB (gn S) k = gn S k2) (ht : (tysM G.2.2.1)[t]? = some (G.2.2.1 k, .object r.1)) {i : Int32} (hin : vp_in i n) (hdg : decode cc pc = .ok (.aastore, 1))
    (kk : ∀ (S1 : St) (H1 : Heap) (locs1 : List Loc), S1 = sr S k j i.toNatClampNeg (some j2) → WW G S1 s H1 locs1 → Ext S S1 → W p l e R s m args below meth c H1 locs1 cells slots Q (F0 m (pc + 1) ls rest)) : W p l e R s m args below meth c H locs cells slots Q (F0 m pc ls (.ref a2 :: .int i :: .ref a :: rest)) := by
  have h0 := pw_arr hw k hk hk9 ha (he S)
  have hlt : i.toNatClampNeg < n := Nat.not_le.mp fun q => hin (Or.inr q)
  have hn0 : ¬ i < 0 := fun q => hin (Or.inl q)
  have hU := upd_sr S k j i.toNatClampNeg (some j2)
  obtain ⟨r', hr', cellV, g1, g2, g3, -⟩ := (pw_one hw hk2 hk29 ha2) 0 (a2, .inr (ci, vs)) (by rw [he2]; rfl)
  have hcls := (hw.1.K.1 ci r hc).2
  obtain ⟨kA, comp, k1, k2', k3, -⟩ := (hw.1.K.2 t _ ht).2
  have hcomp : comp = G.1.1 ci := Option.some.inj (k3.symm.trans hcls.1)
  subst hcomp
  obtain ⟨kC, hkC, -⟩ := hcls.2
  obtain ⟨hj, rfl⟩ := ha
  refine W.aast F.1 F.2.1 h0 (fun q h => by cases h) (fun h => by cases h) k1 k2' rfl hkC ⟨hn0, by show _ < (arrV _ _ _).slots.size; rw [arrV_size]; exact hlt⟩ g1 (fun q h => by rw [g3] at h; cases h) (by rw [g2]; exact hkC) (by rw [g2]; exact va_assign hcls) rfl rfl hdg fun H1 e z oq => ?_
  refine kk _ H1 _ rfl ⟨hw.1.upd hk hk9 hj hU ?_ z oq (wf_sr (pw_wf hw.1) (fun q hq => by cases hq; rw [hkb]; exact ha2.1)), hw.2.put z oq (hw.1.2.1 k j hk hk9 hj).2⟩ hU.ext
  rw [he]
  show H1[ga S k j]? = some (vp_cell _ _)
  rw [e, vp_cell_q, vp_cell_q, arrV_store]
  congr 2
  funext q
  by_cases hq : q = i.toNatClampNeg
  · subst hq
    simp [updV, gr_sr, va_rf, ← ha2.2]
    rfl
  · simp [updV, gr_sr, hq]
    rfl
end ROWS
