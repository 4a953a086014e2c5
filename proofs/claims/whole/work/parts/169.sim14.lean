/-! ===== counting bits ===== -/
theorem la_split {a p : Nat} (b q : Nat) (ha : a < 256) (hp : p < 256) : (a + 256 * b) &&& (p + 256 * q) = (a &&& p) + 256 * (b &&& q) := by
  have h1 : ((a + 256 * b) &&& (p + 256 * q)) % 2 ^ 8 = a &&& p := by
    rw [Nat.and_mod_two_pow, show (a + 256 * b) % 2 ^ 8 = a by omega, show (p + 256 * q) % 2 ^ 8 = p by omega]
  have h2 : ((a + 256 * b) &&& (p + 256 * q)) / 2 ^ 8 = b &&& q := by
    rw [Nat.and_div_two_pow, show (a + 256 * b) / 2 ^ 8 = b by omega, show (p + 256 * q) / 2 ^ 8 = q by omega]
  generalize ((a + 256 * b) &&& (p + 256 * q)) = x at *
  omega
def sw1 (x : Nat) : Nat := x - ((x / 2) &&& 1431655765)
def sw2 (x : Nat) : Nat := (x &&& 858993459) + ((x / 4) &&& 858993459)
def sw3 (x : Nat) : Nat := (x + x / 16) &&& 252645135
def y1 (c : Nat) : Nat := c - ((c / 2) &&& 85)
def y2 (c : Nat) : Nat := (c &&& 51) + ((c / 4) &&& 51)
def y3 (c : Nat) : Nat := (c + c / 16) &&& 15
theorem sw_d1 : ∀ c, c < 256 → ∀ r, r < 2 → (c / 2 + 128 * r) &&& 85 = (c / 2) &&& 85 := by decide +kernel
theorem sw_d2 : ∀ c, c < 256 → ∀ r, r < 4 → (c / 4 + 64 * r) &&& 51 = (c / 4) &&& 51 := by decide +kernel
theorem sw_d3 : ∀ c, c < 69 → ∀ r, r < 5 → (c + c / 16 + 16 * r) &&& 15 = (c + c / 16) &&& 15 := by decide +kernel
theorem y1_le : ∀ c, c < 256 → (c / 2) &&& 85 ≤ c ∧ y1 c < 256 := by decide +kernel
theorem y2_le : ∀ c, c < 256 → y2 (y1 c) < 69 ∧ y2 (y1 c) % 16 < 5 := by decide +kernel
theorem y3_le : ∀ c, c < 256 → y3 (y2 (y1 c)) ≤ 8 := by decide +kernel
theorem sw_s4 : ∀ c, c < 4 → (c / 2) &&& 21845 = (c / 2) &&& 85 := by decide +kernel
theorem sw_s5 : ∀ c, c < 256 → ((c / 4) &&& 13107 = (c / 4) &&& 51) ∧ (c &&& 13107 = c &&& 51) := by decide +kernel
theorem sw_s6 : ∀ c, c < 80 → c &&& 3855 = c &&& 15 := by decide +kernel
theorem sw1_e {a b c : Nat} (ha : a < 256) (hb : b < 256) (hc : c < 4) : sw1 (a + 256 * (b + 256 * c)) = y1 a + 256 * (y1 b + 256 * y1 c) := by
  have e1 : (a + 256 * (b + 256 * c)) / 2 = (a / 2 + 128 * ((b + 256 * c) % 2)) + 256 * ((b + 256 * c) / 2) := by omega
  have e2 : (b + 256 * c) / 2 = (b / 2 + 128 * (c % 2)) + 256 * (c / 2) := by omega
  have h1 := (y1_le a ha).1
  have h2 := (y1_le b hb).1
  have h3 := (y1_le c (by omega)).1
  unfold sw1
  rw [e1, show 1431655765 = 85 + 256 * 5592405 from rfl, la_split _ _ (by omega) (by omega), sw_d1 a ha _ (by omega), e2, show 5592405 = 85 + 256 * 21845 from rfl, la_split _ _ (by omega) (by omega), sw_d1 b hb _ (by omega), sw_s4 c hc]
  unfold y1
  omega
theorem sw2_e {a b c : Nat} (ha : a < 256) (hb : b < 256) (hc : c < 256) : sw2 (a + 256 * (b + 256 * c)) = y2 a + 256 * (y2 b + 256 * y2 c) := by
  have e1 : (a + 256 * (b + 256 * c)) / 4 = (a / 4 + 64 * ((b + 256 * c) % 4)) + 256 * ((b + 256 * c) / 4) := by omega
  have e2 : (b + 256 * c) / 4 = (b / 4 + 64 * (c % 4)) + 256 * (c / 4) := by omega
  obtain ⟨s1, s2⟩ := sw_s5 c hc
  unfold sw2
  rw [e1, show 858993459 = 51 + 256 * 3355443 from rfl, la_split _ _ ha (by omega), la_split _ _ (by omega) (by omega), sw_d2 a ha _ (by omega), e2, show 3355443 = 51 + 256 * 13107 from rfl, la_split _ _ hb (by omega), la_split _ _ (by omega) (by omega), sw_d2 b hb _ (by omega), s1, s2]
  unfold y2
  omega
theorem sw3_e {a b c : Nat} (ha : a < 69) (hb : b < 69) (hc : c < 69) (hb2 : b % 16 < 5) (hc2 : c % 16 < 5) : sw3 (a + 256 * (b + 256 * c)) = y3 a + 256 * (y3 b + 256 * y3 c) := by
  have e1 : (a + 256 * (b + 256 * c)) + (a + 256 * (b + 256 * c)) / 16 = (a + a / 16 + 16 * (b % 16)) + 256 * ((b + b / 16 + 16 * (c % 16)) + 256 * (c + c / 16)) := by omega
  unfold sw3
  rw [e1, show 252645135 = 15 + 256 * (15 + 256 * 3855) from rfl, la_split _ _ (by omega) (by omega), la_split _ _ (by omega) (by omega), sw_d3 a ha _ hb2, sw_d3 b hb _ hc2, sw_s6 (c + c / 16) (by omega)]
  unfold y3
  rfl
def pcN : Nat → Nat → Nat
  | _, 0 => 0
  | m, n + 1 => m % 2 + pcN (m / 2) n
theorem y_pc : ∀ c, c < 256 → y3 (y2 (y1 c)) = pcN c 8 := by decide +kernel
theorem y_p2 : ∀ c, c < 4 → y3 (y2 (y1 c)) = pcN c 2 := by decide +kernel
theorem pcN_8 (m k : Nat) : pcN m (8 + k) = pcN (m % 256) 8 + pcN (m / 256) k := by
  have g : ∀ d m, pcN m (d + k) = pcN (m % 2 ^ d) d + pcN (m / 2 ^ d) k := by
    intro d
    induction d with
    | zero => intro m; simp [pcN]
    | succ d ih =>
      intro m
      have e1 : m / 2 ^ (d + 1) = m / 2 / 2 ^ d := by rw [Nat.div_div_eq_div_mul, Nat.pow_succ, Nat.mul_comm]
      have e2 : m % 2 ^ (d + 1) / 2 = m / 2 % 2 ^ d := by
        rw [Nat.pow_succ, Nat.mul_comm, Nat.mod_mul_right_div_self]
      have e3 : m % 2 ^ (d + 1) % 2 = m % 2 := by
        rw [Nat.pow_succ]; exact Nat.mod_mul_left_mod _ _ _
      rw [show d + 1 + k = (d + k) + 1 by omega]
      show m % 2 + pcN (m / 2) (d + k) = (m % 2 ^ (d + 1) % 2 + pcN (m % 2 ^ (d + 1) / 2) d) + pcN (m / 2 ^ (d + 1)) k
      rw [ih, e1, e2, e3]
      omega
  exact g 8 m
def swN (x : Nat) : Nat := ((sw3 (sw2 (sw1 x)) + sw3 (sw2 (sw1 x)) / 256) + (sw3 (sw2 (sw1 x)) + sw3 (sw2 (sw1 x)) / 256) / 65536) &&& 63
theorem swN_e {m : Nat} (hm : m < 2 ^ 18) : swN m = pcN m 18 ∧ sw1 m < 2 ^ 31 ∧ sw2 (sw1 m) < 2 ^ 31 ∧ sw3 (sw2 (sw1 m)) < 2 ^ 30 ∧ (m / 2) &&& 1431655765 ≤ m := by
  obtain ⟨a, b, c, ha, hb, hc, rfl⟩ : ∃ a b c, a < 256 ∧ b < 256 ∧ c < 4 ∧ m = a + 256 * (b + 256 * c) := ⟨m % 256, m / 256 % 256, m / 65536, by omega, by omega, by omega, by omega⟩
  have e1 := sw1_e ha hb hc
  have l1 := (y1_le a ha).2
  have l2 := (y1_le b hb).2
  have l3 := (y1_le c (by omega)).2
  have e2 := sw2_e l1 l2 l3
  obtain ⟨k1, k1'⟩ := y2_le a ha
  obtain ⟨k2, k2'⟩ := y2_le b hb
  obtain ⟨k3, k3'⟩ := y2_le c (by omega)
  have e3 := sw3_e k1 k2 k3 k2' k3'
  have p1 := y3_le a ha
  have p2 := y3_le b hb
  have p3 := y3_le c (by omega)
  have ep : pcN (a + 256 * (b + 256 * c)) 18 = y3 (y2 (y1 a)) + y3 (y2 (y1 b)) + y3 (y2 (y1 c)) := by
    rw [y_pc a ha, y_pc b hb, y_p2 c hc, show 18 = 8 + 10 from rfl, pcN_8, show (a + 256 * (b + 256 * c)) % 256 = a by omega, show (a + 256 * (b + 256 * c)) / 256 = b + 256 * c by omega, show 10 = 8 + 2 from rfl, pcN_8, show (b + 256 * c) % 256 = b by omega, show (b + 256 * c) / 256 = c by omega]
    omega
  have hle : ((a + 256 * (b + 256 * c)) / 2) &&& 1431655765 ≤ a + 256 * (b + 256 * c) := Nat.le_trans Nat.and_le_left (Nat.div_le_self _ _)
  unfold swN
  rw [e1, e2, e3, ep]
  generalize y3 (y2 (y1 a)) = u at *
  generalize y3 (y2 (y1 b)) = v at *
  generalize y3 (y2 (y1 c)) = w at *
  refine ⟨?_, by omega, by omega, by omega, hle⟩
  have q1 : (u + 256 * (v + 256 * w)) / 256 = v + 256 * w := by omega
  have q2 : (u + 256 * (v + 256 * w) + (v + 256 * w)) / 65536 = w := by omega
  rw [show (63 : Nat) = 2 ^ 6 - 1 from rfl, Nat.and_two_pow_sub_one_eq_mod, q1, q2]
  clear e1 e2 e3 ep q1 q2 k1 k1' k2 k2' k3 k3' l1 l2 l3 hle
  omega
theorem nx_and (a b : Nat) : nI a &&& nI b = nI (a &&& b) := by
  apply Int32.toBitVec_inj.mp
  rw [Int32.toBitVec_and]
  show BitVec.ofNat 32 a &&& BitVec.ofNat 32 b = BitVec.ofNat 32 (a &&& b)
  apply BitVec.eq_of_toNat_eq
  rw [BitVec.toNat_and, BitVec.toNat_ofNat, BitVec.toNat_ofNat, BitVec.toNat_ofNat, Nat.and_mod_two_pow]
theorem nx_shr {m j : Nat} (hm : m < 2 ^ 32) (hj : j < 32) : ((nI m).toUInt32 >>> ((nI j).toUInt32 &&& Int32.toUInt32 31)).toInt32 = nI (m / 2 ^ j) := by
  apply Int32.toBitVec_inj.mp
  show ((nI m).toUInt32 >>> ((nI j).toUInt32 &&& Int32.toUInt32 31)).toBitVec = BitVec.ofNat 32 (m / 2 ^ j)
  rw [UInt32.toBitVec_shiftRight]
  show (BitVec.ofNat 32 m) >>> (((nI j).toUInt32 &&& Int32.toUInt32 31).toBitVec % 32).toNat = _
  rw [s_u j hj]
  apply BitVec.eq_of_toNat_eq
  rw [BitVec.toNat_ushiftRight, BitVec.toNat_ofNat, BitVec.toNat_ofNat, Nat.mod_eq_of_lt hm, Nat.shiftRight_eq_div_pow, Nat.mod_eq_of_lt (Nat.lt_of_le_of_lt (Nat.div_le_self _ _) hm)]
theorem nx_sub {a b : Nat} (h : b ≤ a) : nI a - nI b = nI (a - b) := by
  have : nI a = nI (a - b) + nI b := by rw [nI_add]; congr 1; omega
  rw [this]; grind
theorem j_bitCount {m : Nat} (hm : m < 2 ^ 18) {S : St} {post : Int32 → St → Prop} (hp : post (nI (pcN m 18)) S) : wp_J6_bitCount_0f7a4 (nI m) S post := by
  obtain ⟨e, b1, b2, b3, b4⟩ := swN_e hm
  intro v1 e1 v2 e2 v3 e3 v4 e4 v5 e5
  have x1 : v1 = nI (sw1 m) := by
    rw [e1, show ((1 : Int32).toUInt32 &&& Int32.toUInt32 31) = ((nI 1).toUInt32 &&& Int32.toUInt32 31) from rfl, nx_shr (by omega) (by omega), show (1431655765 : Int32) = nI 1431655765 from rfl, nx_and, nx_sub b4]; rfl
  have x2 : v2 = nI (sw2 (sw1 m)) := by
    rw [e2, x1, show ((2 : Int32).toUInt32 &&& Int32.toUInt32 31) = ((nI 2).toUInt32 &&& Int32.toUInt32 31) from rfl, nx_shr (by omega) (by omega), show (858993459 : Int32) = nI 858993459 from rfl, nx_and, nx_and, nI_add]; rfl
  have x3 : v3 = nI (sw3 (sw2 (sw1 m))) := by
    rw [e3, x2, show ((4 : Int32).toUInt32 &&& Int32.toUInt32 31) = ((nI 4).toUInt32 &&& Int32.toUInt32 31) from rfl, nx_shr (by omega) (by omega), nI_add, show (252645135 : Int32) = nI 252645135 from rfl, nx_and]; rfl
  have x4 : v4 = nI (sw3 (sw2 (sw1 m)) + sw3 (sw2 (sw1 m)) / 256) := by
    rw [e4, x3, show ((8 : Int32).toUInt32 &&& Int32.toUInt32 31) = ((nI 8).toUInt32 &&& Int32.toUInt32 31) from rfl, nx_shr (by omega) (by omega), nI_add]
  have x5 : v5 = nI ((sw3 (sw2 (sw1 m)) + sw3 (sw2 (sw1 m)) / 256) + (sw3 (sw2 (sw1 m)) + sw3 (sw2 (sw1 m)) / 256) / 65536) := by
    rw [e5, x4, show ((16 : Int32).toUInt32 &&& Int32.toUInt32 31) = ((nI 16).toUInt32 &&& Int32.toUInt32 31) from rfl, nx_shr (by omega) (by omega), nI_add]
  have x6 : v5 &&& (63 : Int32) = nI (pcN m 18) := by
    rw [x5, show (63 : Int32) = nI 63 from rfl, nx_and, ← e]; rfl
  rw [x6]; exact hp
/-! a mask, its bits, its size -/
theorem bt_nI (m i : Nat) (hi : i < 32) : bt (nI m) i = m.testBit i := by
  show (BitVec.ofNat 32 m).getLsbD i = m.testBit i
  rw [BitVec.getLsbD_ofNat]
  simp [hi]
theorem mask_nI {x : Int32} {n : Nat} (hn : n ≤ 31) (h : ∀ i, n ≤ i → i < 32 → bt x i = false) : ∃ m, m < 2 ^ n ∧ x = nI m := by
  have hx : x = nI x.toBitVec.toNat := by
    apply Int32.toBitVec_inj.mp
    show _ = BitVec.ofNat 32 _
    simp
  refine ⟨x.toBitVec.toNat, Nat.lt_pow_two_of_testBit _ (fun i hi => ?_), hx⟩
  by_cases q : i < 32
  · have := h i hi q
    unfold bt at this
    rw [← this]; rfl
  · exact Nat.testBit_lt_two_pow (Nat.lt_of_lt_of_le x.toBitVec.isLt (Nat.pow_le_pow_right (by decide) (by omega)))
def szB (P : Nat → Bool) : Nat → Nat
  | 0 => 0
  | n + 1 => szB P n + (if P n = true then 1 else 0)
theorem szB_c {P Q : Nat → Bool} {n : Nat} (h : ∀ k, k < n → P k = Q k) : szB P n = szB Q n := by
  induction n with
  | zero => rfl
  | succ n ih => simp only [szB]; rw [ih (fun k hk => h k (by omega)), h n (by omega)]
theorem szB_front (P : Nat → Bool) (n : Nat) : szB P (n + 1) = (if P 0 = true then 1 else 0) + szB (fun k => P (k + 1)) n := by
  induction n with
  | zero => simp [szB]
  | succ n ih =>
    show szB P (n + 1) + (if P (n + 1) = true then 1 else 0) = (if P 0 = true then 1 else 0) + (szB (fun k => P (k + 1)) n + (if P (n + 1) = true then 1 else 0))
    rw [ih]; omega
theorem pc_szB : ∀ n m, pcN m n = szB (fun k => m.testBit k) n := by
  intro n
  induction n with
  | zero => intro m; rfl
  | succ n ih =>
    intro m
    rw [szB_front]
    show m % 2 + pcN (m / 2) n = _
    rw [ih]
    have e : (fun k => (m / 2).testBit k) = fun k => m.testBit (k + 1) := funext (fun k => by rw [Nat.testBit_succ])
    rw [e]
    congr 1
    rw [Nat.testBit_zero]
    rcases Nat.mod_two_eq_zero_or_one m with q | q <;> rw [q] <;> simp
theorem c_bitCount {x : Int32} (h : ∀ i, 18 ≤ i → i < 32 → bt x i = false) {S : St} {post : Int32 → St → Prop} (hp : post (nI (szB (bt x) 18)) S) : wp_J6_bitCount_0f7a4 x S post := by
  obtain ⟨m, hm, rfl⟩ := mask_nI (by omega) h
  refine j_bitCount hm ?_
  rw [pc_szB, ← szB_c (fun k hk => bt_nI m k (by omega))]
  exact hp
theorem szB_le (P : Nat → Bool) (n : Nat) : szB P n ≤ n := by
  induction n with
  | zero => exact Nat.le_refl _
  | succ n ih => simp only [szB]; split <;> omega
theorem r_size {x : Int32} {S : St} {post : Int32 → St → Prop} (hp : post (nI (szB (bt x) 18)) S) : wp_X9_size x S post := by
  refine ⟨19, ?_⟩
  have key : ∀ d i, i + d = 18 → lp_X9_size_4 x post (d + 1) (nI i) (nI (szB (bt x) i)) S := by
    intro d
    induction d with
    | zero =>
      intro i hi
      have hi : i = 18 := by omega
      subst hi
      exact ⟨fun _ => hp, fun c => absurd (Int32.le_refl _) c⟩
    | succ d ih =>
      intro i hi
      have hlt : i < 18 := by omega
      refine ⟨fun c => absurd c (nI_ge (b := 18) hlt (by omega)), fun _ v ev v3 e3 => ?_⟩
      have nx := ih (i + 1) (by omega)
      rw [bit_s (by omega)] at ev
      have : v = nI (szB (bt x) (i + 1)) := by
        rw [ev]
        simp only [szB]
        by_cases q : bt x i = true
        · rw [if_pos q, if_pos q]; exact nI_1 _
        · rw [if_neg q, if_neg q]; grind
      rw [e3, nI_1, this]; exact nx
  exact key 18 0 (by omega)
theorem bt_neg (d : Int32) (k : Nat) (hk : k < 32) : bt (-d) k = (bt d k ^^ decide (∃ j, j < k ∧ bt d j = true)) := by
  unfold bt
  rw [Int32.toBitVec_neg, BitVec.getLsbD_neg]
  simp [hk]
theorem low_diff {x y : Int32} (h : x ≠ y) : ∃ j, j < 32 ∧ bt x j ≠ bt y j ∧ ∀ k, k < j → bt x k = bt y k := by
  have ex : ∃ j, j < 32 ∧ bt x j ≠ bt y j := Classical.byContradiction (fun q => h (b_ext (fun i hi => Classical.byContradiction (fun z => q ⟨i, hi, z⟩))))
  obtain ⟨j, hj, hd⟩ := ex
  have : ∀ n j, j ≤ n → j < 32 → bt x j ≠ bt y j → ∃ j, j < 32 ∧ bt x j ≠ bt y j ∧ ∀ k, k < j → bt x k = bt y k := by
    intro n
    induction n with
    | zero => intro j hn hj hd; exact ⟨j, hj, hd, fun k hk => absurd hk (by omega)⟩
    | succ n ih =>
      intro j hn hj hd
      by_cases q : ∃ k, k < j ∧ bt x k ≠ bt y k
      · obtain ⟨k, hk, hd2⟩ := q
        exact ih k (by omega) (by omega) hd2
      · exact ⟨j, hj, hd, fun k hk => Classical.byContradiction (fun z => q ⟨k, hk, z⟩)⟩
  exact this j j (Nat.le_refl _) hj hd
theorem r_isFirst {x y : Int32} {S : St} {post : Int32 → St → Prop} (h0 : x = y → post 0 S) (h1 : ∀ j, j < 32 → bt x j ≠ bt y j → (∀ k, k < j → bt x k = bt y k) → (bt x j = true → post 1 S) ∧ (bt x j = false → post 0 S)) : wp_X9_isFirst x y S post := by
  intro v1 e1
  subst e1
  by_cases e : x = y
  · subst e
    have z : x ^^^ x = 0 := b_ext (fun i hi => by rw [b_xor, b_0]; simp)
    exact ⟨fun _ => h0 rfl, fun c => absurd z c⟩
  · obtain ⟨j, hj, hd, hl⟩ := low_diff e
    have hb : ∀ k, k < 32 → bt ((x &&& (x ^^^ y)) &&& (-(x ^^^ y))) k = (decide (k = j) && bt x j) := by
      intro k hk
      rw [b_and, b_and, bt_neg _ _ hk, b_xor]
      rcases Nat.lt_trichotomy k j with q | q | q
      · rw [hl k q]
        simp [show k ≠ j by omega]
      · subst q
        have : ¬ ∃ i, i < k ∧ bt (x ^^^ y) i = true := by
          rintro ⟨i, hi, z⟩
          rw [b_xor, hl i hi] at z
          simp at z
        simp [this]
        cases hx : bt x k <;> cases hy : bt y k <;> simp_all
      · have : ∃ i, i < k ∧ bt (x ^^^ y) i = true := ⟨j, q, by rw [b_xor]; cases hx : bt x j <;> cases hy : bt y j <;> simp_all⟩
        simp [this, show k ≠ j by omega]
    have hz : x ^^^ y ≠ 0 := fun z => hd (by
      have := congrArg (fun w => bt w j) z
      simp only [b_xor, b_0] at this
      cases hx : bt x j <;> cases hy : bt y j <;> simp_all)
    refine ⟨fun c => absurd c hz, fun _ => ?_⟩
    obtain ⟨p1, p0⟩ := h1 j hj hd hl
    cases hx : bt x j with
    | true =>
      refine ⟨fun c => ?_, fun _ => p1 hx⟩
      have := hb j hj
      rw [c, b_0, hx] at this
      simp at this
    | false =>
      refine ⟨fun _ => p0 hx, fun c => absurd (b_ext (fun k hk => ?_)) c⟩
      rw [hb k hk, hx, b_0]; simp
theorem mkM_b {P : Nat → Prop} : ∀ {n : Nat}, n ≤ 32 → ∀ {k : Nat}, k < 32 → (bt (mkM P n) k = true ↔ (k < n ∧ P k)) := by
  intro n
  induction n with
  | zero => intro _ k hk; exact ⟨fun c => (by rw [show mkM P 0 = 0 from rfl, b_0] at c; cases c), fun c => absurd c.1 (by omega)⟩
  | succ n ih =>
    intro hn k hk
    have i := ih (by omega) hk
    by_cases q : P n
    · rw [mkM_t q, b_or, b_shl n (by omega) 1 hk]
      by_cases e : k = n
      · subst e
        rw [Nat.sub_self, b_1 0 (by omega)]
        exact ⟨fun _ => ⟨by omega, q⟩, fun _ => by simp⟩
      · have : (decide (n ≤ k) && bt 1 (k - n)) = false := by
          by_cases z : n ≤ k
          · rw [b_1 (k - n) (by omega)]; simp; omega
          · simp [z]
        rw [this, Bool.or_false, i]
        exact ⟨fun c => ⟨by omega, c.2⟩, fun c => ⟨by omega, c.2⟩⟩
    · rw [mkM_f q, i]
      exact ⟨fun c => ⟨by omega, c.2⟩, fun c => ⟨Nat.lt_of_le_of_ne (by omega) (fun z => q (z ▸ c.2)), c.2⟩⟩
theorem b_set (x : Int32) {g k : Nat} (hg : g < 32) (hk : k < 32) : bt (x ||| ((1 : Int32) <<< (nI g &&& 31))) k = (bt x k || decide (k = g)) := by
  rw [b_or, b_shl g hg 1 hk]
  congr 1
  by_cases e : k = g
  · subst e
    rw [Nat.sub_self, b_1 0 (by omega)]; simp
  · by_cases z : g ≤ k
    · rw [b_1 (k - g) (by omega)]; simp [e]; omega
    · simp [z, e]
