section
/-! rows of kit/rows, pasted: stores, numbers, masks, branches by naturals, loops; bits -/
theorem pk_us {f : Nat → Int32} {k : Nat} {x : Int32} : upd f k x k = x := if_pos rfl
theorem pk_un {f : Nat → Int32} {k j : Nat} {x : Int32} (h : j ≠ k) : upd f k x j = f j := if_neg h
theorem pk_sub {a b : Nat} (h : b ≤ a) : nI a - nI b = nI (a - b) := by
  obtain ⟨c, rfl⟩ : ∃ c, a = c + b := ⟨a - b, by omega⟩
  rw [← nI_add, Int32.add_sub_cancel, Nat.add_sub_cancel]
theorem pk_m1 (n : Nat) : nI (n + 1) + (-1) = nI n := by
  rw [← nI_1, Int32.add_assoc, show (1 : Int32) + (-1) = 0 from rfl, Int32.add_zero]
theorem pk_mul (a b : Nat) : nI a * nI b = nI (a * b) := (Int32.ofNat_mul a b).symm
theorem pk_div {a d : Nat} (ha : a < 2 ^ 31) (h0 : 0 < d) (hd : d < 2 ^ 31) : nI a / nI d = nI (a / d) := by
  apply Int32.toInt_inj.mp
  rw [lg_idiv_nonneg (by rw [nI_toInt ha]; omega) (by rw [nI_toInt hd]; omega), nI_toInt ha, nI_toInt hd, nI_toInt (Nat.lt_of_le_of_lt (Nat.div_le_self a d) ha)]
  first | rfl | exact (Int.natCast_ediv _ _).symm
theorem pk_rem {a d : Nat} (ha : a < 2 ^ 31) (h0 : 0 < d) (hd : d < 2 ^ 31) : nI a - nI a / nI d * nI d = nI (a % d) := by
  rw [pk_div ha h0 hd, pk_mul, pk_sub (Nat.div_mul_le_self a d)]
  exact congrArg nI (by have := Nat.div_add_mod' a d; omega)
theorem pk_sub_toInt {a b : Nat} (ha : a < 2 ^ 30) (hb : b < 2 ^ 30) : (nI a - nI b).toInt = (a : Int) - b := by
  rw [Int32.toInt_sub, nI_toInt (by omega), nI_toInt (by omega)]
  exact Int.bmod_eq_of_le (by omega) (by omega)
theorem pk_sneg {a b : Nat} (hb : b < 2 ^ 30) (h : a < b) : nI a - nI b < 0 := by
  rw [Int32.lt_iff_toInt_lt, pk_sub_toInt (by omega) hb, show (0 : Int32).toInt = 0 from by decide]
  omega
theorem pk_ix (x : Int32) {n : Nat} (hn : n < 2 ^ 31) : x < 0 ∨ nI n ≤ x ∨ ∃ j : Nat, j < n ∧ x = nI j := by
  by_cases h : x < 0
  · exact Or.inl h
  · obtain ⟨j, hj, rfl⟩ := nI_of h
    by_cases h2 : j < n
    · exact Or.inr (Or.inr ⟨j, h2, rfl⟩)
    · exact Or.inr (Or.inl (nI_le (by omega) hj))
theorem pk_le {x y : Int32} {A B : Prop} (a b : Nat) (f : a ≤ b → A) (g : b < a → B) (hx : x = nI a := by rfl) (hy : y = nI b := by rfl) (ha : a < 2 ^ 31 := by omega) (hb : b < 2 ^ 31 := by omega) : (x ≤ y → A) ∧ (¬ x ≤ y → B) := by
  subst hx hy
  rw [nI_leI ha hb]
  exact ⟨f, fun z => g (by omega)⟩
theorem pk_lt {x y : Int32} {A B : Prop} (a b : Nat) (f : a < b → A) (g : b ≤ a → B) (hx : x = nI a := by rfl) (hy : y = nI b := by rfl) (ha : a < 2 ^ 31 := by omega) (hb : b < 2 ^ 31 := by omega) : (x < y → A) ∧ (¬ x < y → B) := by
  subst hx hy
  rw [nI_ltI ha hb]
  exact ⟨f, fun z => g (by omega)⟩
theorem pk_eq {x y : Int32} {A B : Prop} (a b : Nat) (f : a = b → A) (g : a ≠ b → B) (hx : x = nI a := by rfl) (hy : y = nI b := by rfl) (ha : a < 2 ^ 31 := by omega) (hb : b < 2 ^ 31 := by omega) : (x = y → A) ∧ (¬ x = y → B) := by
  subst hx hy
  rw [nI_eq ha hb]
  exact ⟨f, g⟩
theorem pk_in {x : Int32} (n N : Nat) (h : n < N) (hx : x = nI n := by rfl) (hN : N < 2 ^ 31 := by omega) : vp_in x N := by
  subst hx
  exact vp_in_nI h hN
theorem pk_cl {x : Int32} (n : Nat) (hx : x = nI n := by rfl) (h : n < 2 ^ 31 := by omega) : x.toNatClampNeg = n := by
  subst hx
  exact nI_clamp h
theorem pk_tn {n : Nat} (h : n < 2 ^ 32) : (nI n).toBitVec.toNat = n := Nat.mod_eq_of_lt h
theorem pk_and (x : Int32) {m : Int32} (k : Nat) (hm : m.toBitVec.toNat = 2 ^ k - 1) : x &&& m = nI (x.toBitVec.toNat % 2 ^ k) := by
  apply Int32.toBitVec_inj.mp
  apply BitVec.eq_of_toNat_eq
  rw [Int32.toBitVec_and, BitVec.toNat_and, hm, Nat.and_two_pow_sub_one_eq_mod]
  show _ = (BitVec.ofNat 32 _).toNat
  rw [BitVec.toNat_ofNat]
  exact (Nat.mod_eq_of_lt (Nat.lt_of_le_of_lt (Nat.mod_le _ _) x.toBitVec.isLt)).symm
theorem pk_andN {n : Nat} (h : n < 2 ^ 32) {m : Int32} (k : Nat) (hm : m.toBitVec.toNat = 2 ^ k - 1) : nI n &&& m = nI (n % 2 ^ k) := by
  rw [pk_and _ k hm, pk_tn h]
theorem pk_andE (x : Int32) {m : Int32} (k : Nat) (hm : m.toBitVec.toNat = 2 ^ k - 1) : ∃ j : Nat, j < 2 ^ k ∧ x &&& m = nI j := ⟨_, Nat.mod_lt _ (Nat.two_pow_pos k), pk_and x k hm⟩
theorem pk_andIn (x : Int32) {m : Int32} (k : Nat) (hm : m.toBitVec.toNat = 2 ^ k - 1) (hk : k ≤ 30) : vp_in (x &&& m) (2 ^ k) := by
  obtain ⟨j, hj, e⟩ := pk_andE x k hm
  rw [e]
  exact vp_in_nI hj (Nat.lt_of_le_of_lt (Nat.pow_le_pow_right (by decide) hk) (by decide))
theorem pk_shl (a s : Int32) (k : Nat) (hs : (s.toBitVec.smod 32).toNat = k) : (a <<< s).toBitVec.toNat = a.toBitVec.toNat * 2 ^ k % 2 ^ 32 := by
  show (a.toBitVec <<< (s.toBitVec.smod 32).toNat).toNat = _
  rw [hs, BitVec.toNat_shiftLeft, Nat.shiftLeft_eq]
theorem pk_shr (a s : Int32) (k : Nat) (hs : (s.toBitVec.smod 32).toNat = k) : (a >>> s).toInt = a.toInt >>> k := by
  show (a.toBitVec.sshiftRight (s.toBitVec.smod 32).toNat).toInt = _
  rw [hs, BitVec.toInt_sshiftRight]
  rfl
theorem pk_shrN {n : Nat} (h : n < 2 ^ 31) (s : Int32) (k : Nat) (hs : (s.toBitVec.smod 32).toNat = k) : nI n >>> s = nI (n / 2 ^ k) := by
  apply Int32.toInt_inj.mp
  have h2 : n / 2 ^ k ≤ n := Nat.div_le_self _ _
  rw [pk_shr _ _ k hs, nI_toInt h, nI_toInt (by omega), Int.shiftRight_eq_div_pow]
  rfl
theorem pk_loop {σ : Type} (W : Nat → Nat → σ → Prop) (I : Nat → σ → Prop) (e i0 : Nat) (s : σ) (hi : i0 ≤ e) (h0 : I i0 s) (hx : ∀ n s, I e s → W (n + 1) e s)
    (hs : ∀ n i s, i < e → I i s → (∀ s', I (i + 1) s' → W n (i + 1) s') → W (n + 1) i s) : ∃ n, W n i0 s :=
  ⟨e + 1, loop_i W I e hx hs (e + 1) i0 s hi (by omega) h0⟩
theorem pk_loopD {σ : Type} (W : Nat → Nat → σ → Prop) (I : Nat → σ → Prop) (hx : ∀ n s, I 0 s → W (n + 1) 0 s)
    (hs : ∀ n i s, I (i + 1) s → (∀ s', I i s' → W n i s') → W (n + 1) (i + 1) s) : ∀ (e : Nat) (s : σ), I e s → W (e + 1) e s := by
  intro e
  induction e with
  | zero => exact fun s h => hx 0 s h
  | succ e ih => exact fun s h => hs (e + 1) e s h (fun s' h' => ih s' h')
theorem lp1 {A1 : Type} (W : Nat → A1 → Prop) (I : A1 → Prop) (μ : A1 → Nat) (hs : ∀ (n : Nat) (a1 : A1), I a1 → (∀ (b1 : A1), I b1 → μ b1 < μ a1 → W n b1) → W (n + 1) a1) (a1 : A1) (h : I a1) : ∃ n, W n a1 :=
  loop_m (σ := A1) (fun n s => W n s) (fun s => I s) (fun s => μ s) (fun n s hI hk => hs n s hI (fun b1 h9 hm => hk b1 h9 hm)) a1 h
theorem lp2 {A1 A2 : Type} (W : Nat → A1 → A2 → Prop) (I : A1 → A2 → Prop) (μ : A1 → A2 → Nat) (hs : ∀ (n : Nat) (a1 : A1) (a2 : A2), I a1 a2 → (∀ (b1 : A1) (b2 : A2), I b1 b2 → μ b1 b2 < μ a1 a2 → W n b1 b2) → W (n + 1) a1 a2) (a1 : A1) (a2 : A2) (h : I a1 a2) : ∃ n, W n a1 a2 :=
  loop_m (σ := A1 × A2) (fun n s => W n s.1 s.2) (fun s => I s.1 s.2) (fun s => μ s.1 s.2) (fun n s hI hk => hs n s.1 s.2 hI (fun b1 b2 h9 hm => hk (b1, b2) h9 hm)) (a1, a2) h
theorem lp3 {A1 A2 A3 : Type} (W : Nat → A1 → A2 → A3 → Prop) (I : A1 → A2 → A3 → Prop) (μ : A1 → A2 → A3 → Nat) (hs : ∀ (n : Nat) (a1 : A1) (a2 : A2) (a3 : A3), I a1 a2 a3 → (∀ (b1 : A1) (b2 : A2) (b3 : A3), I b1 b2 b3 → μ b1 b2 b3 < μ a1 a2 a3 → W n b1 b2 b3) → W (n + 1) a1 a2 a3) (a1 : A1) (a2 : A2) (a3 : A3) (h : I a1 a2 a3) : ∃ n, W n a1 a2 a3 :=
  loop_m (σ := A1 × A2 × A3) (fun n s => W n s.1 s.2.1 s.2.2) (fun s => I s.1 s.2.1 s.2.2) (fun s => μ s.1 s.2.1 s.2.2) (fun n s hI hk => hs n s.1 s.2.1 s.2.2 hI (fun b1 b2 b3 h9 hm => hk (b1, b2, b3) h9 hm)) (a1, a2, a3) h
theorem lp4 {A1 A2 A3 A4 : Type} (W : Nat → A1 → A2 → A3 → A4 → Prop) (I : A1 → A2 → A3 → A4 → Prop) (μ : A1 → A2 → A3 → A4 → Nat) (hs : ∀ (n : Nat) (a1 : A1) (a2 : A2) (a3 : A3) (a4 : A4), I a1 a2 a3 a4 → (∀ (b1 : A1) (b2 : A2) (b3 : A3) (b4 : A4), I b1 b2 b3 b4 → μ b1 b2 b3 b4 < μ a1 a2 a3 a4 → W n b1 b2 b3 b4) → W (n + 1) a1 a2 a3 a4) (a1 : A1) (a2 : A2) (a3 : A3) (a4 : A4) (h : I a1 a2 a3 a4) : ∃ n, W n a1 a2 a3 a4 :=
  loop_m (σ := A1 × A2 × A3 × A4) (fun n s => W n s.1 s.2.1 s.2.2.1 s.2.2.2) (fun s => I s.1 s.2.1 s.2.2.1 s.2.2.2) (fun s => μ s.1 s.2.1 s.2.2.1 s.2.2.2) (fun n s hI hk => hs n s.1 s.2.1 s.2.2.1 s.2.2.2 hI (fun b1 b2 b3 b4 h9 hm => hk (b1, b2, b3, b4) h9 hm)) (a1, a2, a3, a4) h
theorem lp5 {A1 A2 A3 A4 A5 : Type} (W : Nat → A1 → A2 → A3 → A4 → A5 → Prop) (I : A1 → A2 → A3 → A4 → A5 → Prop) (μ : A1 → A2 → A3 → A4 → A5 → Nat) (hs : ∀ (n : Nat) (a1 : A1) (a2 : A2) (a3 : A3) (a4 : A4) (a5 : A5), I a1 a2 a3 a4 a5 → (∀ (b1 : A1) (b2 : A2) (b3 : A3) (b4 : A4) (b5 : A5), I b1 b2 b3 b4 b5 → μ b1 b2 b3 b4 b5 < μ a1 a2 a3 a4 a5 → W n b1 b2 b3 b4 b5) → W (n + 1) a1 a2 a3 a4 a5) (a1 : A1) (a2 : A2) (a3 : A3) (a4 : A4) (a5 : A5) (h : I a1 a2 a3 a4 a5) : ∃ n, W n a1 a2 a3 a4 a5 :=
  loop_m (σ := A1 × A2 × A3 × A4 × A5) (fun n s => W n s.1 s.2.1 s.2.2.1 s.2.2.2.1 s.2.2.2.2) (fun s => I s.1 s.2.1 s.2.2.1 s.2.2.2.1 s.2.2.2.2) (fun s => μ s.1 s.2.1 s.2.2.1 s.2.2.2.1 s.2.2.2.2) (fun n s hI hk => hs n s.1 s.2.1 s.2.2.1 s.2.2.2.1 s.2.2.2.2 hI (fun b1 b2 b3 b4 b5 h9 hm => hk (b1, b2, b3, b4, b5) h9 hm)) (a1, a2, a3, a4, a5) h
theorem lp6 {A1 A2 A3 A4 A5 A6 : Type} (W : Nat → A1 → A2 → A3 → A4 → A5 → A6 → Prop) (I : A1 → A2 → A3 → A4 → A5 → A6 → Prop) (μ : A1 → A2 → A3 → A4 → A5 → A6 → Nat) (hs : ∀ (n : Nat) (a1 : A1) (a2 : A2) (a3 : A3) (a4 : A4) (a5 : A5) (a6 : A6), I a1 a2 a3 a4 a5 a6 → (∀ (b1 : A1) (b2 : A2) (b3 : A3) (b4 : A4) (b5 : A5) (b6 : A6), I b1 b2 b3 b4 b5 b6 → μ b1 b2 b3 b4 b5 b6 < μ a1 a2 a3 a4 a5 a6 → W n b1 b2 b3 b4 b5 b6) → W (n + 1) a1 a2 a3 a4 a5 a6) (a1 : A1) (a2 : A2) (a3 : A3) (a4 : A4) (a5 : A5) (a6 : A6) (h : I a1 a2 a3 a4 a5 a6) : ∃ n, W n a1 a2 a3 a4 a5 a6 :=
  loop_m (σ := A1 × A2 × A3 × A4 × A5 × A6) (fun n s => W n s.1 s.2.1 s.2.2.1 s.2.2.2.1 s.2.2.2.2.1 s.2.2.2.2.2) (fun s => I s.1 s.2.1 s.2.2.1 s.2.2.2.1 s.2.2.2.2.1 s.2.2.2.2.2) (fun s => μ s.1 s.2.1 s.2.2.1 s.2.2.2.1 s.2.2.2.2.1 s.2.2.2.2.2) (fun n s hI hk => hs n s.1 s.2.1 s.2.2.1 s.2.2.2.1 s.2.2.2.2.1 s.2.2.2.2.2 hI (fun b1 b2 b3 b4 b5 b6 h9 hm => hk (b1, b2, b3, b4, b5, b6) h9 hm)) (a1, a2, a3, a4, a5, a6) h
theorem pk_least (P : Nat → Prop) (h : ∃ k, P k) : ∃ k, P k ∧ ∀ j, j < k → ¬ P j := by
  obtain ⟨k, hk⟩ := h
  induction k using Nat.strongRecOn with
  | ind k ih =>
    by_cases e : ∃ j, j < k ∧ P j
    · obtain ⟨j, hj, pj⟩ := e
      exact ih j hj pj
    · exact ⟨k, hk, fun j hj pj => e ⟨j, hj, pj⟩⟩
theorem pk_mu {x : Int32} {L : Nat} (h0 : ¬ x < 0) (h : ¬ nI L ≤ x) (hL : L < 2 ^ 31) : ∃ j : Nat, j < L ∧ x = nI j ∧ x + 1 = nI (j + 1) ∧ x.toNatClampNeg = j ∧ L - (x + 1).toNatClampNeg < L - x.toNatClampNeg := by
  obtain ⟨j, hj, rfl⟩ := nI_of h0
  have hl : j < L := Nat.not_le.mp fun q => h (nI_le q hj)
  refine ⟨j, hl, rfl, nI_1 j, nI_clamp hj, ?_⟩
  rw [nI_1, nI_clamp (by omega), nI_clamp hj]
  omega
def bt (x : Int32) (i : Nat) : Bool := x.toBitVec.getLsbD i
theorem b_ext {x y : Int32} (h : ∀ i, i < 32 → bt x i = bt y i) : x = y := Int32.toBitVec_inj.mp (BitVec.eq_of_getLsbD_eq (fun i hi => h i hi))
theorem b_or (x y : Int32) (i : Nat) : bt (x ||| y) i = (bt x i || bt y i) := by unfold bt; rw [Int32.toBitVec_or, BitVec.getLsbD_or]
theorem b_and (x y : Int32) (i : Nat) : bt (x &&& y) i = (bt x i && bt y i) := by unfold bt; rw [Int32.toBitVec_and, BitVec.getLsbD_and]
theorem b_xor (x y : Int32) (i : Nat) : bt (x ^^^ y) i = (bt x i ^^ bt y i) := by unfold bt; rw [Int32.toBitVec_xor, BitVec.getLsbD_xor]
theorem b_big {x : Int32} {i : Nat} (h : 32 ≤ i) : bt x i = false := BitVec.getLsbD_of_ge _ _ h
theorem b_m1 : ∀ i, i < 32 → bt (-1) i = true := by decide +kernel
theorem b_0 (i : Nat) : bt 0 i = false := BitVec.getLsbD_zero
theorem s_l : ∀ n, n < 32 → ((nI n &&& 31).toBitVec.smod 32).toNat = n := by decide +kernel
theorem b_shl (n : Nat) (hn : n < 32) (x : Int32) {i : Nat} (hi : i < 32) : bt (x <<< (nI n &&& 31)) i = (decide (n ≤ i) && bt x (i - n)) := by
  unfold bt
  rw [Int32.toBitVec_shiftLeft]
  show (x.toBitVec <<< ((nI n &&& 31).toBitVec.smod 32).toNat).getLsbD i = _
  rw [s_l n hn, BitVec.getLsbD_shiftLeft]
  rcases Nat.lt_or_ge i n with h | h
  · simp [h, Nat.not_le.mpr h]
  · simp [hi, h, Nat.not_lt.mpr h]
theorem b_sshr (n : Nat) (hn : n < 32) (x : Int32) {i : Nat} (hi : i < 32) : bt (x >>> (nI n &&& 31)) i = if n + i < 32 then bt x (n + i) else bt x 31 := by
  unfold bt
  rw [Int32.toBitVec_shiftRight]
  show (x.toBitVec.sshiftRight ((nI n &&& 31).toBitVec.smod 32).toNat).getLsbD i = _
  rw [s_l n hn, BitVec.getLsbD_sshiftRight, BitVec.msb_eq_getLsbD_last]
  simp [hi]
end
section
/-! numbers: Int64 by integers, digits, rounding, runs of stores, paragraph counts, the walk of partner -/
def ar_l (a : Int) : Int64 := Int64.ofInt a
def ar_B (a : Int) : Prop := -9223372036854775808 ≤ a ∧ a ≤ 9223372036854775807
def ar_s : Bool → Nat → Int
  | true, m => -(m : Int)
  | false, m => (m : Int)
theorem ar_add (a b : Int) : ar_l a + ar_l b = ar_l (a + b) := (Int64.ofInt_add a b).symm
theorem ar_sub (a b : Int) : ar_l a - ar_l b = ar_l (a - b) := (Int64.ofInt_sub a b).symm
theorem ar_mul (a b : Int) : ar_l a * ar_l b = ar_l (a * b) := (Int64.ofInt_mul a b).symm
theorem ar_neg (a : Int) : -ar_l a = ar_l (-a) := (Int64.ofInt_neg a).symm
theorem ar_toInt {a : Int} (h : ar_B a) : (ar_l a).toInt = a :=
  Int64.toInt_ofInt_of_le (Int.le_trans (by decide) h.1) (Int.lt_of_le_of_lt h.2 (by decide))
theorem ar_lt {a b : Int} (ha : ar_B a) (hb : ar_B b) : ar_l a < ar_l b ↔ a < b := by
  rw [Int64.lt_iff_toInt_lt, ar_toInt ha, ar_toInt hb]
theorem ar_le {a b : Int} (ha : ar_B a) (hb : ar_B b) : ar_l a ≤ ar_l b ↔ a ≤ b := by
  rw [Int64.le_iff_toInt_le, ar_toInt ha, ar_toInt hb]
theorem ar_eq {a b : Int} (ha : ar_B a) (hb : ar_B b) : ar_l a = ar_l b ↔ a = b := by
  rw [← Int64.toInt_inj, ar_toInt ha, ar_toInt hb]
theorem ar_div {a b : Int} (ha : ar_B a) (hb : ar_B b) : ar_l a / ar_l b = ar_l (a.tdiv b) :=
  (Int64.ofInt_tdiv (by rw [Int64.toInt_minValue]; exact Int.le_trans (by decide) ha.1) (by rw [Int64.toInt_maxValue]; exact Int.le_trans ha.2 (by decide))
    (by rw [Int64.toInt_minValue]; exact Int.le_trans (by decide) hb.1) (by rw [Int64.toInt_maxValue]; exact Int.le_trans hb.2 (by decide))).symm
theorem ar_rem {a b : Int} (ha : ar_B a) (hb : ar_B b) : ar_l a - ar_l a / ar_l b * ar_l b = ar_l (a.tmod b) := by
  rw [ar_div ha hb, ar_mul, ar_sub, Int.tmod_def, Int.mul_comm]
theorem ar_N (n : Nat) : lN n = ar_l (n : Int) := Int64.ofInt_eq_ofNat.symm
theorem ar_z (z : Int32) : z.toInt64 = ar_l z.toInt := rfl
theorem ar_i (a : Int) : (ar_l a).toInt32 = Int32.ofInt a := Int64.toInt32_ofInt
theorem ar_0 : (0 : Int64) = ar_l 0 := by decide
theorem ar_1 : (1 : Int64) = ar_l 1 := by decide
theorem ar_5 : (5 : Int64) = ar_l 5 := by decide
theorem ar_10 : (10 : Int64) = ar_l 10 := by decide
theorem ar_e9 : (1000000000 : Int64) = ar_l 1000000000 := by decide
theorem ar_2 : (2 : Int64) = ar_l 2 := by decide
theorem ar_sB {s : Bool} {m : Nat} (h : m < 9223372036854775808) : ar_B (ar_s s m) := by
  cases s
  · exact ⟨by show _ ≤ (m : Int); omega, by show (m : Int) ≤ _; omega⟩
  · exact ⟨by show _ ≤ -(m : Int); omega, by show -(m : Int) ≤ _; omega⟩
theorem ar_nB {m : Nat} (h : m < 9223372036854775808) : ar_B (m : Int) := ar_sB (s := false) h
theorem ar_B0 : ar_B 0 := ⟨by decide, by decide⟩
theorem ar_td (s : Bool) (m n : Nat) : (ar_s s m).tdiv (n : Int) = ar_s s (m / n) := by
  cases s
  · exact (Int.ofNat_tdiv m n).symm
  · show (-(m : Int)).tdiv (n : Int) = -((m / n : Nat) : Int)
    rw [Int.neg_tdiv, Int.ofNat_tdiv]
theorem ar_tm (s : Bool) (m n : Nat) : (ar_s s m).tmod (n : Int) = ar_s s (m % n) := by
  cases s
  · exact (Int.ofNat_tmod m n).symm
  · show (-(m : Int)).tmod (n : Int) = -((m % n : Nat) : Int)
    rw [Int.neg_tmod, Int.ofNat_tmod]
theorem ar_ms (s : Bool) (m n : Nat) : ar_s s m * (n : Int) = ar_s s (m * n) := by
  cases s
  · exact (Int.natCast_mul m n).symm
  · show -(m : Int) * (n : Int) = -((m * n : Nat) : Int)
    rw [Int.neg_mul, Int.natCast_mul]
theorem ar_s0 (s : Bool) : ar_s s 0 = 0 := by cases s <;> rfl
theorem ar_ngs (s : Bool) (m : Nat) : -ar_s s m = ar_s (!s) m := by
  cases s
  · rfl
  · exact Int.neg_neg _
theorem ar_neg0 (s : Bool) (m : Nat) : ar_s s m < 0 ↔ (s = true ∧ 0 < m) := by
  cases s
  · exact ⟨fun h => absurd h (by show ¬ (m : Int) < 0; omega), fun h => absurd h.1 (by decide)⟩
  · exact ⟨fun h => ⟨rfl, by have : -(m : Int) < 0 := h; omega⟩, fun h => by show -(m : Int) < 0; have := h.2; omega⟩
theorem ar_ex (a : Int) : ∃ (s : Bool) (m : Nat), a = ar_s s m ∧ m = a.natAbs ∧ (s = true ↔ a < 0) := by
  by_cases h : a < 0
  · exact ⟨true, a.natAbs, by show a = -((a.natAbs : Nat) : Int); omega, rfl, ⟨fun _ => h, fun _ => rfl⟩⟩
  · exact ⟨false, a.natAbs, by show a = ((a.natAbs : Nat) : Int); omega, rfl, ⟨fun z => absurd z (by decide), fun z => absurd z h⟩⟩
theorem ar_lts (s : Bool) {m : Nat} (h : m < 9223372036854775808) : ar_l (ar_s s m) < 0 ↔ (s = true ∧ 0 < m) := by
  rw [ar_0, ar_lt (ar_sB h) ar_B0, ar_neg0]
theorem ar_zB (z : Int32) : -2147483648 ≤ z.toInt ∧ z.toInt < 2147483648 := ⟨Int32.le_toInt z, Int32.toInt_lt z⟩
theorem ar_pp (d : Nat) : 0 < 10 ^ d := Nat.pow_pos (by decide)
theorem ar_ple {d e : Nat} (h : d ≤ e) : 10 ^ d ≤ 10 ^ e := Nat.pow_le_pow_right (by decide) h
/-! rounding -/
def rd_q (m b : Nat) (r : Bool) : Nat := if r = true ∧ b ≤ 2 * (m % b) then m / b + 1 else m / b
def rd_x (m d : Nat) (r : Bool) : Nat := if r = true ∧ 0 < d then (m / 10 ^ (d - 1) + 5) / 10 else m / 10 ^ d
theorem rd_eq (m d : Nat) (r : Bool) : rd_x m d r = rd_q m (10 ^ d) r := by
  unfold rd_x rd_q
  cases d with
  | zero =>
    rw [if_neg (by omega)]
    rw [Nat.pow_zero, Nat.mod_one, if_neg (by omega)]
  | succ e =>
    cases r with
    | false => rw [if_neg (by simp), if_neg (by simp)]
    | true =>
      rw [if_pos ⟨rfl, by omega⟩, Nat.add_sub_cancel, Nat.pow_succ]
      have hb : 0 < 10 ^ e := ar_pp e
      generalize 10 ^ e = b at hb
      rw [← Nat.div_div_eq_div_mul, Nat.mod_mul]
      have h1 : m % b < b := Nat.mod_lt _ hb
      have h2 : m / b % 10 < 10 := Nat.mod_lt _ (by decide)
      by_cases h5 : 5 ≤ m / b % 10
      · have := Nat.mul_le_mul_left b h5
        rw [if_pos ⟨rfl, by omega⟩]
        omega
      · have : b * (m / b % 10) ≤ b * 4 := Nat.mul_le_mul_left b (by omega)
        rw [if_neg (fun z => by have := z.2; omega)]
        omega
/-! digits: digit k (from the right) of an item with 'wants' decimals, of a value with 'has' decimals and magnitude m -/
def dg_d (m has wants k : Nat) : Nat := if k + has < wants then 0 else m / 10 ^ (k + has - wants) % 10
def dg_N (m has wants : Nat) : Nat := if has ≤ wants then m * 10 ^ (wants - has) else m / 10 ^ (has - wants)
theorem dg_lt (m has wants k : Nat) : dg_d m has wants k < 10 := by
  unfold dg_d
  by_cases h : k + has < wants
  · rw [if_pos h]; decide
  · rw [if_neg h]; exact Nat.mod_lt _ (by decide)
theorem dg_Nd (m has wants k : Nat) : dg_N m has wants / 10 ^ k % 10 = dg_d m has wants k := by
  unfold dg_N dg_d
  by_cases h : has ≤ wants
  · rw [if_pos h]
    by_cases hk : k + has < wants
    · rw [if_pos hk]
      obtain ⟨c, hc⟩ : ∃ c, wants - has = (c + 1) + k := ⟨wants - has - k - 1, by omega⟩
      rw [hc, Nat.pow_add, ← Nat.mul_assoc, Nat.mul_div_cancel _ (ar_pp k), Nat.pow_succ, ← Nat.mul_assoc, Nat.mul_mod_left]
    · rw [if_neg hk]
      obtain ⟨c, hc⟩ : ∃ c, k = c + (wants - has) := ⟨k - (wants - has), by omega⟩
      have e : k + has - wants = c := by omega
      rw [e]
      generalize wants - has = w at hc
      subst hc
      rw [Nat.pow_add, Nat.mul_div_mul_right _ _ (ar_pp w)]
  · rw [if_neg h, if_neg (by omega), Nat.div_div_eq_div_mul, ← Nat.pow_add]
    congr 3
    omega
theorem dg_mod (N D k : Nat) (h : k < D) : N % 10 ^ D / 10 ^ k % 10 = N / 10 ^ k % 10 := by
  obtain ⟨c, hc⟩ : ∃ c, D = k + (c + 1) := ⟨D - k - 1, by omega⟩
  rw [hc, Nat.pow_add, Nat.mod_mul_right_div_self]
  exact Nat.mod_mod_of_dvd _ (by rw [Nat.pow_succ]; exact Nat.dvd_mul_left 10 (10 ^ c))
theorem dg_zero : ∀ (D S : Nat), S < 10 ^ D → (∀ k, k < D → S / 10 ^ k % 10 = 0) → S = 0
  | 0, S, h, _ => by rw [Nat.pow_zero] at h; omega
  | D + 1, S, h, hd => by
    have h0 := hd 0 (by omega)
    rw [Nat.pow_zero, Nat.div_one] at h0
    have h1 : S / 10 = 0 := dg_zero D (S / 10) (by rw [Nat.pow_succ] at h; omega) (fun k hk => by
      have := hd (k + 1) (by omega)
      rw [Nat.pow_succ, Nat.mul_comm, ← Nat.div_div_eq_div_mul] at this
      exact this)
    omega
theorem dg_nz (m has wants D : Nat) : dg_N m has wants % 10 ^ D ≠ 0 ↔ ∃ k, k < D ∧ dg_d m has wants k ≠ 0 := by
  constructor
  · intro h
    refine Classical.byContradiction fun hn => h ?_
    refine dg_zero D _ (Nat.mod_lt _ (ar_pp D)) fun k hk => ?_
    rw [dg_mod _ _ _ hk, dg_Nd]
    exact Classical.byContradiction fun z => hn ⟨k, hk, z⟩
  · intro ⟨k, hk, hz⟩ h
    apply hz
    rw [← dg_Nd, ← dg_mod _ D _ hk, h, Nat.zero_div]
/-! runs of stores -/
def sg_put (st : Nat → Int32) (p lo hi : Nat) (f : Nat → Int32) : Nat → Int32 := fun j => if p + lo ≤ j ∧ j < p + hi then f (j - p) else st j
theorem sg_0 (st : Nat → Int32) (p a : Nat) (f : Nat → Int32) : sg_put st p a a f = st := by
  funext j
  exact if_neg (by omega)
theorem sg_up (st : Nat → Int32) (p lo hi : Nat) (f : Nat → Int32) (h : lo ≤ hi) : upd (sg_put st p lo hi f) (p + hi) (f hi) = sg_put st p lo (hi + 1) f := by
  funext j
  simp only [upd, sg_put]
  by_cases e : j = p + hi
  · subst e
    rw [if_pos rfl, if_pos (by omega), Nat.add_sub_cancel_left]
  · rw [if_neg e]
    by_cases c : p + lo ≤ j ∧ j < p + hi
    · rw [if_pos c, if_pos (by omega)]
    · rw [if_neg c, if_neg (by omega)]
theorem sg_dn (st : Nat → Int32) (p lo hi : Nat) (f : Nat → Int32) (h : lo < hi) : upd (sg_put st p (lo + 1) hi f) (p + lo) (f lo) = sg_put st p lo hi f := by
  funext j
  simp only [upd, sg_put]
  by_cases e : j = p + lo
  · subst e
    rw [if_pos rfl, if_pos (by omega), Nat.add_sub_cancel_left]
  · rw [if_neg e]
    by_cases c : p + (lo + 1) ≤ j ∧ j < p + hi
    · rw [if_pos c, if_pos (by omega)]
    · rw [if_neg c, if_neg (by omega)]
theorem sg_in (st : Nat → Int32) (p lo hi : Nat) (f : Nat → Int32) {i : Nat} (h : lo ≤ i) (h2 : i < hi) : sg_put st p lo hi f (p + i) = f i := by
  unfold sg_put
  rw [if_pos (by omega), Nat.add_sub_cancel_left]
theorem sg_in0 (st : Nat → Int32) (lo hi : Nat) (f : Nat → Int32) {i : Nat} (h : lo ≤ i) (h2 : i < hi) : sg_put st 0 lo hi f i = f i := by
  have := sg_in st 0 lo hi f h h2
  rwa [Nat.zero_add] at this
theorem sg_cg (st : Nat → Int32) (p lo hi : Nat) {f g : Nat → Int32} (h : ∀ i, lo ≤ i → i < hi → f i = g i) : sg_put st p lo hi f = sg_put st p lo hi g := by
  funext j
  unfold sg_put
  by_cases c : p + lo ≤ j ∧ j < p + hi
  · rw [if_pos c, if_pos c]; exact h _ (by omega) (by omega)
  · rw [if_neg c, if_neg c]
/-! values: the digits' sum as valueAt reckons it, from place p on over n places; sort 1 keeps a place for what is no digit -/
def vs_f (K : Nat) (st : Nat → Int32) (p : Nat) : Nat → Nat
  | 0 => 0
  | n + 1 => if st (p + n) ≤ 9 then (vs_f K st p n * 10 + (st (p + n)).toNatClampNeg) % 1000000000 else if K = 1 then vs_f K st p n * 10 else vs_f K st p n
def st_ok (st : Nat → Int32) : Prop := ∀ j, ¬ st j < 0
theorem vs_c9 {c : Int32} (h : c ≤ 9) : c.toNatClampNeg ≤ 9 := by
  by_cases h0 : c < 0
  · have : c.toInt < 0 := by
      have := Int32.lt_iff_toInt_lt.mp h0
      rwa [show (0 : Int32).toInt = 0 from by decide] at this
    show c.toInt.toNat ≤ 9
    omega
  · obtain ⟨j, hj, rfl⟩ := nI_of h0
    rw [nI_clamp hj]
    exact (nI_leI (b := 9) hj (by decide)).mp h
theorem vs_lt1 (st : Nat → Int32) (p : Nat) : ∀ n, vs_f 1 st p n < 10 ^ n
  | 0 => Nat.zero_lt_one
  | n + 1 => by
    have ih := vs_lt1 st p n
    unfold vs_f
    rw [Nat.pow_succ]
    by_cases h : st (p + n) ≤ 9
    · rw [if_pos h]
      have := vs_c9 h
      exact Nat.lt_of_le_of_lt (Nat.mod_le _ _) (by omega)
    · rw [if_neg h, if_pos rfl]
      omega
theorem vs_lt2 {K : Nat} (hK : K ≠ 1) (st : Nat → Int32) (p : Nat) : ∀ n, vs_f K st p n < 1000000000
  | 0 => show 0 < 1000000000 by decide
  | n + 1 => by
    have ih := vs_lt2 hK st p n
    unfold vs_f
    by_cases h : st (p + n) ≤ 9
    · rw [if_pos h]
      exact Nat.mod_lt _ (by decide)
    · rw [if_neg h, if_neg hK]
      exact ih
theorem vs_lt {K : Nat} (st : Nat → Int32) (p n : Nat) (h : K = 1 → n ≤ 9) : vs_f K st p n < 1000000000 := by
  by_cases hK : K = 1
  · subst hK
    exact Nat.lt_of_lt_of_le (vs_lt1 st p n) (Nat.pow_le_pow_right (n := 10) (by decide) (h rfl))
  · exact vs_lt2 hK st p n
/-! is there a minus among n places from p on -/
def vs_m (st : Nat → Int32) (p : Nat) : Nat → Bool
  | 0 => false
  | n + 1 => decide (st (p + n) = 11) || vs_m st p n
/-! paragraphs: how many begin ahead of k -/
def tb_z (op : Nat → Int32) : Nat → Nat
  | 0 => 0
  | k + 1 => tb_z op k + (if op k = 0 then 1 else 0)
theorem tb_zs {op : Nat → Int32} {k : Nat} (h : op k = 0) : tb_z op (k + 1) = tb_z op k + 1 := by
  show tb_z op k + (if op k = 0 then 1 else 0) = _
  rw [if_pos h]
theorem tb_zn {op : Nat → Int32} {k : Nat} (h : ¬ op k = 0) : tb_z op (k + 1) = tb_z op k := by
  show tb_z op k + (if op k = 0 then 1 else 0) = _
  rw [if_neg h, Nat.add_zero]
theorem tb_s (op : Nat → Int32) (k : Nat) : tb_z op k ≤ tb_z op (k + 1) ∧ tb_z op (k + 1) ≤ tb_z op k + 1 := by
  by_cases h : op k = 0
  · rw [tb_zs h]; omega
  · rw [tb_zn h]; omega
theorem tb_mono (op : Nat → Int32) {i j : Nat} (h : i ≤ j) : tb_z op i ≤ tb_z op j := by
  induction h with
  | refl => exact Nat.le_refl _
  | step _ ih => exact Nat.le_trans ih (tb_s op _).1
theorem tb_le (op : Nat → Int32) : ∀ k, tb_z op k ≤ k
  | 0 => Nat.le_refl _
  | k + 1 => by have := tb_le op k; have := (tb_s op k).2; omega
theorem tb_find (op : Nat → Int32) (p : Nat) : ∀ n, p < tb_z op n → ∃ k, k < n ∧ op k = 0 ∧ tb_z op k = p
  | 0, h => absurd h (by show ¬ p < 0; omega)
  | n + 1, h => by
    by_cases hp : p < tb_z op n
    · obtain ⟨k, h1, h2, h3⟩ := tb_find op p n hp
      exact ⟨k, by omega, h2, h3⟩
    · by_cases ho : op n = 0
      · rw [tb_zs ho] at h
        exact ⟨n, by omega, ho, by omega⟩
      · rw [tb_zn ho] at h
        exact absurd h hp
def tb_P (op : Nat → Int32) (n : Nat) (ps : Nat → Int32) : Prop := (∀ j, j < n → op j = 0 → ps (tb_z op j) = nI j) ∧ ps (tb_z op n) = nI n
/-! the walk of partner: depth d at instruction k -/
def pw_i (o : Int32) : Prop := o = 10 ∨ o = 11 ∨ o = 12
def pw_st (d : Nat) (o : Int32) : Prop := d = 0 ∧ (o = 13 ∨ o = 14)
noncomputable def pw_d (d : Nat) (o : Int32) : Nat := @ite Nat (pw_i o) (Classical.propDecidable _) (d + 1) (if o = 14 then d - 1 else d)
theorem pw_di {d : Nat} {o : Int32} (h : pw_i o) : pw_d d o = d + 1 := if_pos h
theorem pw_d14 {d : Nat} : pw_d d 14 = d - 1 := by
  unfold pw_d
  rw [if_neg (by unfold pw_i; decide), if_pos rfl]
theorem pw_dn {d : Nat} {o : Int32} (h : ¬ pw_i o) (h2 : o ≠ 14) : pw_d d o = d := by
  unfold pw_d
  rw [if_neg h, if_neg h2]
def pw_W (op : Nat → Int32) : Nat → Nat → Nat → Nat → Prop
  | 0, d, _, d' => d' = d
  | l + 1, d, k, d' => ¬ pw_st d (op k) ∧ pw_W op l (pw_d d (op k)) (k + 1) d'
theorem pw_sn (op : Nat → Int32) : ∀ (l d k d' : Nat), pw_W op l d k d' → ¬ pw_st d' (op (k + l)) → pw_W op (l + 1) d k (pw_d d' (op (k + l)))
  | 0, d, k, d', h, hs => by
    have h : d' = d := h
    subst h
    exact ⟨hs, rfl⟩
  | l + 1, d, k, d', h, hs => by
    refine ⟨h.1, ?_⟩
    have e : k + (l + 1) = k + 1 + l := by omega
    rw [e] at hs ⊢
    exact pw_sn op l _ (k + 1) d' h.2 hs
/-! j's partner is e: the walk from behind j comes to e at depth 0, an ELSE or an END -/
def pw_P (op : Nat → Int32) (j e : Nat) : Prop := ∃ l, e = j + 1 + l ∧ pw_W op l 0 (j + 1) 0 ∧ (op e = 13 ∨ op e = 14)
/-! comparing at the same number of decimals, be it the greater of both or nine -/
theorem cm_sc {a b : Int} {da db m : Nat} (ha : da ≤ m) (hb : db ≤ m) (hm : m ≤ 9) : a * ((10 ^ (9 - da) : Nat) : Int) < b * ((10 ^ (9 - db) : Nat) : Int) ↔ a * ((10 ^ (m - da) : Nat) : Int) < b * ((10 ^ (m - db) : Nat) : Int) := by
  rw [show 9 - da = (m - da) + (9 - m) from by omega, show 9 - db = (m - db) + (9 - m) from by omega, Nat.pow_add, Nat.pow_add, Int.natCast_mul, Int.natCast_mul, ← Int.mul_assoc, ← Int.mul_assoc]
  exact ⟨fun h => Int.lt_of_mul_lt_mul_right h (Int.natCast_nonneg _), fun h => Int.mul_lt_mul_of_pos_right h (Int.natCast_pos.mpr (ar_pp _))⟩
/-! how many characters of n are c -/
def tl_c (st : Nat → Int32) (F : Nat) (c : Int32) : Nat → Nat
  | 0 => 0
  | n + 1 => tl_c st F c n + (if st (F + n) = c then 1 else 0)
theorem tl_le (st : Nat → Int32) (F : Nat) (c : Int32) : ∀ n, tl_c st F c n ≤ n
  | 0 => Nat.le_refl _
  | n + 1 => by
    have := tl_le st F c n
    show tl_c st F c n + (if st (F + n) = c then 1 else 0) ≤ n + 1
    split <;> omega
theorem tl_s {st : Nat → Int32} {F n : Nat} {c : Int32} (h : st (F + n) = c) : tl_c st F c (n + 1) = tl_c st F c n + 1 := by
  show tl_c st F c n + (if st (F + n) = c then 1 else 0) = _
  rw [if_pos h]
theorem tl_n {st : Nat → Int32} {F n : Nat} {c : Int32} (h : ¬ st (F + n) = c) : tl_c st F c (n + 1) = tl_c st F c n := by
  show tl_c st F c n + (if st (F + n) = c then 1 else 0) = _
  rw [if_neg h, Nat.add_zero]
/-! how many digits m has -/
def nd_P (m n : Nat) : Prop := 1 ≤ n ∧ n ≤ 10 ∧ m / 10 ^ n = 0 ∧ ∀ j, 1 ≤ j → j < n → ¬ m / 10 ^ j = 0
theorem nd_ex {m : Nat} (h : m < 10000000000) : ∃ n, nd_P m n := by
  obtain ⟨n, ⟨h1, h2⟩, h3⟩ := pk_least (fun n => 1 ≤ n ∧ m / 10 ^ n = 0) ⟨10, by decide, Nat.div_eq_of_lt (by rw [show 10 ^ 10 = 10000000000 from by decide]; exact h)⟩
  refine ⟨n, h1, ?_, h2, fun j hj hn z => h3 j hn ⟨hj, z⟩⟩
  refine Nat.le_of_not_lt fun hn => h3 10 hn ⟨by decide, Nat.div_eq_of_lt (by rw [show 10 ^ 10 = 10000000000 from by decide]; exact h)⟩
/-- the characters of z's digits -/
def nd_t (m n i : Nat) : Int32 := if i < n then nI (m / 10 ^ (n - 1 - i) % 10) else 10
/-- the characters of an item without its sign: n of them from place p on -/
def tx_c (st : Nat → Int32) (p n i : Nat) : Int32 := if i < n then st (p + i) else 10
/-! the value of what lies at F: W places, S of them (0 or 1) for the sign, of sort K -/
def vl_s (st : Nat → Int32) (K F W S : Nat) : Bool := (decide (S = 1) && decide (st F = 11)) || (decide (K = 3) && vs_m st F W)
def vl_m (st : Nat → Int32) (K F W S : Nat) : Nat := vs_f K st (F + S) (W - S)
def vl_v (st : Nat → Int32) (K F W S : Nat) : Int := ar_s (vl_s st K F W S) (vl_m st K F W S)
theorem vl_lt (st : Nat → Int32) (K F W S : Nat) (h : K = 1 → W - S ≤ 9) : vl_m st K F W S < 1000000000 := vs_lt st _ _ h
end
section
/-! items: a picture's signs, what both sides keep of an item, where the one lies that INDEX says -/
def pi_s (p : Int32) (L k : Nat) : Int32 := (p >>> ((3 * ((nI L - 1) - nI k)) &&& 31)) &&& 7
/-- how many of the first n signs stand for a digit -/
def pi_c (p : Int32) (L : Nat) : Nat → Nat
  | 0 => 0
  | n + 1 => pi_c p L n + (if pi_s p L n < 4 then 1 else 0)
theorem pi_cs {p : Int32} {L n : Nat} (h : pi_s p L n < 4) : pi_c p L (n + 1) = pi_c p L n + 1 := by
  show pi_c p L n + (if pi_s p L n < 4 then 1 else 0) = _
  rw [if_pos h]
theorem pi_cn {p : Int32} {L n : Nat} (h : ¬ pi_s p L n < 4) : pi_c p L (n + 1) = pi_c p L n := by
  show pi_c p L n + (if pi_s p L n < 4 then 1 else 0) = _
  rw [if_neg h, Nat.add_zero]
theorem pi_le (p : Int32) (L : Nat) : ∀ n, pi_c p L n ≤ n
  | 0 => Nat.le_refl _
  | n + 1 => by
    have := pi_le p L n
    by_cases h : pi_s p L n < 4
    · rw [pi_cs h]; omega
    · rw [pi_cn h]; omega
theorem pi_mono (p : Int32) (L : Nat) {i j : Nat} (h : i ≤ j) : pi_c p L i ≤ pi_c p L j := by
  induction h with
  | refl => exact Nat.le_refl _
  | step _ ih => exact Nat.le_trans ih (Nat.le_add_right _ _)
theorem pi_v (p : Int32) (L k : Nat) : ∃ s, s < 8 ∧ pi_s p L k = nI s := pk_andE _ 3 (by decide)
section
variable (kd pl wd tm dg dc ss pc ln sn sd : Nat → Int32)
def it_R (j K A W T D B S L : Nat) : Prop :=
  (kd j = nI K ∧ pl j = nI A ∧ wd j = nI W ∧ tm j = nI T ∧ dg j = nI D ∧ dc j = nI B ∧ ss j = nI S ∧ ln j = nI L) ∧
  (1 ≤ K ∧ K ≤ 3 ∧ 1 ≤ T ∧ T ≤ 9 ∧ 1 ≤ L ∧ L ≤ 12 ∧ W = L + S ∧ A + W * T ≤ 96 ∧ S ≤ 1 ∧ B ≤ 9 ∧ D ≤ 9) ∧
  (K = 1 → D = L ∧ L ≤ 9 ∧ B ≤ L ∧ sd j = nI S) ∧ (K ≠ 1 → S = 0) ∧
  (K = 3 → L ≤ 8 ∧ D = pi_c (pc j) L L ∧ 1 ≤ D ∧ ∀ k, k < L → sn (8 * j + k) = pi_s (pc j) L k ∧ pi_s (pc j) L k ≠ 0)
def it_A : Prop := ∀ j, j < 12 → kd j = 0 ∨ ∃ K A W T D B S L, it_R kd pl wd tm dg dc ss pc ln sn sd j K A W T D B S L
end
/-- INDEX picks the e-th of T -/
def it_X (ix : Int32) (T e : Nat) : Prop := 1 ≤ e ∧ e ≤ T ∧ (T = 1 ∨ ix = nI e)
theorem it_F {A W T e : Nat} (h : A + W * T ≤ 96) (h1 : 1 ≤ e) (h2 : e ≤ T) : A + (e - 1) * W + W ≤ 96 := by
  obtain ⟨c, rfl⟩ : ∃ c, e = c + 1 := ⟨e - 1, by omega⟩
  have : (c + 1) * W ≤ T * W := Nat.mul_le_mul_right W h2
  rw [Nat.add_mul, Nat.one_mul] at this
  rw [Nat.mul_comm W T] at h
  rw [Nat.add_sub_cancel]
  omega
end
section
/-! checking: the IFs that are open at instruction i, and where those jump that are closed -/
def ck_o (o : Int32) : Prop := pw_i o ∨ o = 13
def ck_S (op oi : Nat → Int32) (o i : Nat) : Prop := ∀ t, t < o → ∃ b, b < i ∧ oi t = nI b ∧ ck_o (op b) ∧ pw_W op (i - (b + 1)) 0 (b + 1) (o - 1 - t)
def ck_J (op oi jp : Nat → Int32) (o i : Nat) : Prop := ∀ j, j < i → ck_o (op j) → (∃ t, t < o ∧ oi t = nI j) ∨ ∃ e, e < i ∧ pw_P op j e ∧ jp j = nI (e + 1)
theorem ck_S0 (op oi : Nat → Int32) : ck_S op oi 0 0 := fun t h => absurd h (by omega)
theorem ck_J0 (op oi jp : Nat → Int32) : ck_J op oi jp 0 0 := fun t h => absurd h (by omega)
/-- one step further, for a depth at which the walk does not stop -/
theorem ck_w {op : Nat → Int32} {b i d : Nat} (hb : b < i) (h : pw_W op (i - (b + 1)) 0 (b + 1) d) (hs : ¬ pw_st d (op i)) : pw_W op (i + 1 - (b + 1)) 0 (b + 1) (pw_d d (op i)) := by
  have e : b + 1 + (i - (b + 1)) = i := by omega
  have e2 : i + 1 - (b + 1) = i - (b + 1) + 1 := by omega
  have := pw_sn op (i - (b + 1)) 0 (b + 1) d h (by rw [e]; exact hs)
  rw [e] at this
  rw [e2]
  exact this
theorem ck_Sa {op oi : Nat → Int32} {o i : Nat} (h : ck_S op oi o i) (h1 : ¬ pw_i (op i)) (h3 : op i ≠ 13) (h4 : op i ≠ 14) : ck_S op oi o (i + 1) := by
  intro t ht
  obtain ⟨b, hb, e, hc, hw⟩ := h t ht
  refine ⟨b, by omega, e, hc, ?_⟩
  have := ck_w hb hw (fun z => z.2.elim h3 h4)
  rwa [pw_dn h1 h4] at this
theorem ck_Ja {op oi jp : Nat → Int32} {o i : Nat} (h : ck_J op oi jp o i) (h1 : ¬ pw_i (op i)) (h3 : op i ≠ 13) : ck_J op oi jp o (i + 1) := by
  intro j hj ho
  by_cases e : j = i
  · subst e
    exact (ho.elim h1 h3).elim
  · rcases h j (by omega) ho with q | ⟨e, h1, h2⟩
    · exact Or.inl q
    · exact Or.inr ⟨e, by omega, h2⟩
theorem ck_Si {op oi : Nat → Int32} {o i : Nat} (h : ck_S op oi o i) (h1 : pw_i (op i)) : ck_S op (upd oi o (nI i)) (o + 1) (i + 1) := by
  intro t ht
  by_cases e : t = o
  · subst e
    refine ⟨i, by omega, pk_us, Or.inl h1, ?_⟩
    rw [show i + 1 - (i + 1) = 0 from by omega, show t + 1 - 1 - t = 0 from by omega]
    exact rfl
  · obtain ⟨b, hb, e2, hc, hw⟩ := h t (by omega)
    refine ⟨b, by omega, by rw [pk_un e]; exact e2, hc, ?_⟩
    have hs : ¬ pw_st (o - 1 - t) (op i) := by
      intro z
      rcases h1 with q | q | q <;> rw [q] at z <;> exact absurd z.2 (by decide)
    have := ck_w hb hw hs
    rw [pw_di h1] at this
    rw [show o + 1 - 1 - t = o - 1 - t + 1 from by omega]
    exact this
theorem ck_Ji {op oi jp : Nat → Int32} {o i : Nat} (h : ck_J op oi jp o i) : ck_J op (upd oi o (nI i)) jp (o + 1) (i + 1) := by
  intro j hj ho
  by_cases e : j = i
  · subst e
    exact Or.inl ⟨o, by omega, pk_us⟩
  · rcases h j (by omega) ho with ⟨t, ht, q⟩ | ⟨e, h1, h2⟩
    · exact Or.inl ⟨t, by omega, by rw [pk_un (by omega)]; exact q⟩
    · exact Or.inr ⟨e, by omega, h2⟩
/-- the topmost open one, whose partner is i -/
theorem ck_top {op oi : Nat → Int32} {o i : Nat} (h : ck_S op oi (o + 1) i) (hi : op i = 13 ∨ op i = 14) : ∃ b, b < i ∧ oi o = nI b ∧ ck_o (op b) ∧ pw_P op b i := by
  obtain ⟨b, hb, e, hc, hw⟩ := h o (by omega)
  rw [show o + 1 - 1 - o = 0 from by omega] at hw
  exact ⟨b, hb, e, hc, i - (b + 1), by omega, hw, hi⟩
theorem ck_Se {op oi : Nat → Int32} {o i : Nat} (h : ck_S op oi (o + 1) i) (hi : op i = 13) : ck_S op (upd oi o (nI i)) (o + 1) (i + 1) := by
  intro t ht
  by_cases e : t = o
  · subst e
    refine ⟨i, by omega, pk_us, Or.inr hi, ?_⟩
    rw [show i + 1 - (i + 1) = 0 from by omega, show t + 1 - 1 - t = 0 from by omega]
    exact rfl
  · obtain ⟨b, hb, e2, hc, hw⟩ := h t (by omega)
    refine ⟨b, by omega, by rw [pk_un e]; exact e2, hc, ?_⟩
    have := ck_w hb hw (fun z => absurd z.1 (by omega))
    rw [pw_dn (by rw [hi]; unfold pw_i; decide) (by rw [hi]; decide)] at this
    exact this
theorem ck_Sd {op oi : Nat → Int32} {o i : Nat} (h : ck_S op oi (o + 1) i) (hi : op i = 14) : ck_S op oi o (i + 1) := by
  intro t ht
  obtain ⟨b, hb, e2, hc, hw⟩ := h t (by omega)
  refine ⟨b, by omega, e2, hc, ?_⟩
  have := ck_w hb hw (fun z => absurd z.1 (by omega))
  rw [hi, pw_d14] at this
  rw [show o - 1 - t = o + 1 - 1 - t - 1 from by omega]
  exact this
theorem ck_Je {op oi jp : Nat → Int32} {o i b : Nat} (hn : i < 2 ^ 31) (hb : b < i) (eb : oi o = nI b) (hp : pw_P op b i) (h : ck_J op oi jp (o + 1) i) : ck_J op (upd oi o (nI i)) (upd jp b (nI (i + 1))) (o + 1) (i + 1) := by
  intro j hj ho
  by_cases e : j = i
  · subst e
    exact Or.inl ⟨o, by omega, pk_us⟩
  · by_cases e2 : j = b
    · subst e2
      exact Or.inr ⟨i, by omega, hp, pk_us⟩
    · rcases h j (by omega) ho with ⟨t, ht, q⟩ | ⟨e, h1, h2, h3⟩
      · by_cases e3 : t = o
        · subst e3
          rw [eb, nI_eq (by omega) (by omega)] at q
          exact absurd q.symm e2
        · exact Or.inl ⟨t, by omega, by rw [pk_un e3]; exact q⟩
      · exact Or.inr ⟨e, by omega, h2, by rw [pk_un e2]; exact h3⟩
theorem ck_Jd {op oi jp : Nat → Int32} {o i b : Nat} (hn : i < 2 ^ 31) (hb : b < i) (eb : oi o = nI b) (hp : pw_P op b i) (hi : op i = 14) (h : ck_J op oi jp (o + 1) i) : ck_J op oi (upd jp b (nI (i + 1))) o (i + 1) := by
  intro j hj ho
  by_cases e : j = i
  · subst e
    rw [hi] at ho
    exact absurd ho (by unfold ck_o pw_i; decide)
  · by_cases e2 : j = b
    · subst e2
      exact Or.inr ⟨i, by omega, hp, pk_us⟩
    · rcases h j (by omega) ho with ⟨t, ht, q⟩ | ⟨e, h1, h2, h3⟩
      · by_cases e3 : t = o
        · subst e3
          rw [eb, nI_eq (by omega) (by omega)] at q
          exact absurd q.symm e2
        · exact Or.inl ⟨t, by omega, q⟩
      · exact Or.inr ⟨e, by omega, h2, by rw [pk_un e2]; exact h3⟩
/-- all instructions are through and none is open: every IF and ELSE has its partner and jumps behind it -/
theorem ck_end {op oi jp : Nat → Int32} {n : Nat} (h : ck_J op oi jp 0 n) : ∀ j, j < n → ck_o (op j) → ∃ e, e < n ∧ pw_P op j e ∧ jp j = nI (e + 1) := by
  intro j hj ho
  rcases h j hj ho with ⟨t, ht, _⟩ | q
  · exact absurd ht (by omega)
  · exact q
end
section
/-! what a checked program keeps to, the frames of a run, what holds between two calls -/
def ft_i (kd : Nat → Int32) (x : Int32) : Prop := ∃ j, j < 12 ∧ x = nI j ∧ ¬ kd j = 0
def ft_s (kd : Nat → Int32) (x s : Int32) : Prop := ∃ j, j < 12 ∧ x = nI j ∧ kd j = s
def ft_c (kd : Nat → Int32) (x : Int32) : Prop := ft_s kd x 1 ∨ ft_s kd x 2
/-- the operands of one instruction fit: o its code, np the number of paragraphs -/
def ft_G (kd : Nat → Int32) (np : Nat) (o : Nat) (x y z : Int32) : Prop :=
  (o = 1 → (x = 16 ∨ ft_i kd x) ∧ ft_i kd y) ∧
  (2 ≤ o → o ≤ 9 → (x = 16 ∨ ft_s kd x 1) ∧ ft_s kd y 1) ∧
  (o = 10 → ft_c kd x ∧ ft_c kd y ∧ ∃ q, q ≤ 5 ∧ z = nI q) ∧
  (o = 12 → ft_c kd x) ∧
  (o = 15 ∨ o = 16 → ∃ a b, x = nI a ∧ y = nI b ∧ a ≤ b ∧ b < np) ∧
  (o = 17 → ∃ a, x = nI a ∧ a < np) ∧
  (o = 19 → x = 16 ∨ ft_i kd x) ∧
  (o = 20 → x = 16 ∨ ft_s kd x 1) ∧
  (o = 22 → ft_i kd x ∧ ft_s kd y 1)
def rl_J (op jp : Nat → Int32) (n : Nat) : Prop := ∀ j, j < n → ck_o (op j) → ∃ e, e < n ∧ pw_P op j e ∧ jp j = nI (e + 1)
def rl_P (op ox oy oz kd ps jp : Nat → Int32) (n : Nat) : Prop :=
  1 ≤ n ∧ op 0 = 0 ∧ tb_P op n ps ∧ (∀ i, i < n → ∃ o, o ≤ 22 ∧ op i = nI o ∧ ft_G kd (tb_z op n) o (ox i) (oy i) (oz i)) ∧ rl_J op jp n
def rl_R (cn ck sz : Int32) (st kd pl wd tm dg dc ss pc ln sn sd op ox oy oz ps jp : Nat → Int32) : Prop :=
  st_ok st ∧ it_A kd pl wd tm dg dc ss pc ln sn sd ∧ (∃ n, n ≤ 48 ∧ cn = nI n ∧ (∀ j, j < n → ∃ o, o ≤ 22 ∧ op j = nI o) ∧ (ck = 1 → rl_P op ox oy oz kd ps jp n)) ∧ (ck = 0 ∨ ck = 1) ∧ (sz = 0 ∨ sz = 1)
/-- the performs that run: p frames -/
def rn_1 (op ox oy oz pa pt lw hg le bk fm vy : Nat → Int32) (n t : Nat) : Prop :=
  ∃ i τ ζ, i < n ∧ (op i = 15 ∨ op i = 16) ∧ pa t = nI i ∧ pt t = nI τ ∧ oz i = nI ζ ∧ 1 ≤ τ ∧ τ ≤ ζ ∧ ζ < 2 ^ 31 ∧
    lw t = ox i ∧ hg t = oy i ∧ le t = nI (ζ - τ + 1) ∧ bk t = nI (i + 1) ∧ fm t = nI τ ∧ vy t = (if op i = 16 then 1 else 0)
def rn_F (op ox oy oz pa pt lw hg le bk fm vy : Nat → Int32) (n p : Nat) : Prop := ∀ t, t < p → rn_1 op ox oy oz pa pt lw hg le bk fm vy n t
section
variable {op ox oy oz pa pt lw hg le bk fm vy pa' pt' lw' hg' le' bk' fm' vy' : Nat → Int32} {n p : Nat}
theorem rn_1c {t : Nat} (h : rn_1 op ox oy oz pa pt lw hg le bk fm vy n t) (e1 : pa' t = pa t) (e2 : pt' t = pt t) (e3 : lw' t = lw t) (e4 : hg' t = hg t) (e5 : le' t = le t) (e6 : bk' t = bk t) (e7 : fm' t = fm t) (e8 : vy' t = vy t) : rn_1 op ox oy oz pa' pt' lw' hg' le' bk' fm' vy' n t := by
  unfold rn_1 at *
  rw [e1, e2, e3, e4, e5, e6, e7, e8]
  exact h
theorem rn_0 : rn_F op ox oy oz pa pt lw hg le bk fm vy n 0 := fun t h => absurd h (by omega)
theorem rn_push {i ζ : Nat} {b1 b2 b3 b4 b5 b6 b7 b8 : Int32} (h : rn_F op ox oy oz pa pt lw hg le bk fm vy n p) (hi : i < n) (ho : op i = 15 ∨ op i = 16) (hz : oz i = nI ζ) (h1 : 1 ≤ ζ) (h2 : ζ < 2 ^ 31)
    (e1 : b1 = nI i) (e2 : b2 = nI 1) (e3 : b3 = ox i) (e4 : b4 = oy i) (e5 : b5 = oz i) (e6 : b6 = nI (i + 1)) (e7 : b7 = nI 1) (e8 : b8 = if op i = 16 then 1 else 0) :
    rn_F op ox oy oz (upd pa p b1) (upd pt p b2) (upd lw p b3) (upd hg p b4) (upd le p b5) (upd bk p b6) (upd fm p b7) (upd vy p b8) n (p + 1) := by
  intro t ht
  by_cases e : t = p
  · subst e
    exact ⟨i, 1, ζ, hi, ho, pk_us.trans e1, pk_us.trans e2, hz, by omega, h1, h2, pk_us.trans e3, pk_us.trans e4, pk_us.trans (e5.trans (hz.trans (by rw [show ζ - 1 + 1 = ζ from by omega]))), pk_us.trans e6, pk_us.trans e7, pk_us.trans e8⟩
  · exact rn_1c (h t (by omega)) (pk_un e) (pk_un e) (pk_un e) (pk_un e) (pk_un e) (pk_un e) (pk_un e) (pk_un e)
theorem rn_pop {b5 : Int32} (h : rn_F op ox oy oz pa pt lw hg le bk fm vy n (p + 1)) : rn_F op ox oy oz pa pt lw hg (upd le p b5) bk fm vy n p := by
  intro t ht
  have e : t ≠ p := by omega
  exact rn_1c (h t (by omega)) rfl rfl rfl rfl (pk_un e) rfl rfl rfl
theorem rn_next {i τ ζ : Nat} {b2 b5 b7 : Int32} (h : rn_F op ox oy oz pa pt lw hg le bk fm vy n (p + 1)) (hi : i < n) (ho : op i = 15 ∨ op i = 16) (h3 : pa p = nI i) (hz : oz i = nI ζ) (h1 : 1 ≤ τ) (h2 : τ < ζ) (h4 : ζ < 2 ^ 31)
    (g1 : lw p = ox i) (g2 : hg p = oy i) (g3 : bk p = nI (i + 1)) (g4 : vy p = if op i = 16 then 1 else 0) (e2 : b2 = nI (τ + 1)) (e5 : b5 = nI (ζ - τ)) (e7 : b7 = nI (τ + 1)) :
    rn_F op ox oy oz pa (upd pt p b2) lw hg (upd le p b5) bk (upd fm p b7) vy n (p + 1) := by
  intro t ht
  by_cases e : t = p
  · subst e
    exact ⟨i, τ + 1, ζ, hi, ho, h3, pk_us.trans e2, hz, by omega, by omega, h4, g1, g2, pk_us.trans (e5.trans (by rw [show ζ - (τ + 1) + 1 = ζ - τ from by omega])), g3, pk_us.trans e7, g4⟩
  · exact rn_1c (h t (by omega)) rfl (pk_un e) rfl rfl (pk_un e) rfl (pk_un e) rfl
end
end
section
/-! the walks of exact arithmetic: tenTo, ten, lengthened, shortened, quotient, digit -/
theorem ar_p10 (i : Nat) : ar_l ((10 ^ i : Nat) : Int) * 10 = ar_l ((10 ^ (i + 1) : Nat) : Int) := by
  rw [ar_10, ar_mul, Nat.pow_succ, Int.natCast_mul]
  rfl
theorem ar_le0 {a : Int} (h : ar_B a) : (0 : Int64) ≤ ar_l a ↔ 0 ≤ a := by rw [ar_0, ar_le ar_B0 h]
theorem ar_lt0 {a : Int} (h : ar_B a) : ar_l a < 0 ↔ a < 0 := by rw [ar_0, ar_lt h ar_B0]
theorem ar_eq0 {a : Int} (h : ar_B a) : ar_l a = 0 ↔ a = 0 := by rw [ar_0, ar_eq h ar_B0]
theorem ar_d10 (s : Bool) {q : Nat} (h : q < 9223372036854775808) : ar_l (ar_s s q) / 10 = ar_l (ar_s s (q / 10)) := by
  rw [ar_10, ar_div (ar_sB h) ⟨by decide, by decide⟩]
  exact congrArg ar_l (ar_td s q 10)
theorem ar_ab {s : Bool} {m : Nat} (hm : m < 9223372036854775808) (A : Int64 → Prop) (h : A (ar_l (m : Int))) : (0 ≤ ar_l (ar_s s m) → A (ar_l (ar_s s m))) ∧ (¬ 0 ≤ ar_l (ar_s s m) → A (-ar_l (ar_s s m))) := by
  rw [ar_le0 (ar_sB hm), ar_neg]
  cases s with
  | false => exact ⟨fun _ => h, fun z => absurd (show (0 : Int) ≤ (m : Int) from by omega) z⟩
  | true =>
    refine ⟨fun z => ?_, fun _ => ?_⟩
    · have : m = 0 := by have : (0 : Int) ≤ -(m : Int) := z; omega
      subst this
      exact h
    · have e : -ar_s true m = (m : Int) := Int.neg_neg _
      rw [e]
      exact h
theorem xw_tenL {post : Int64 → Prop} {p : Nat} (hp : p ≤ 9) (h : post (ar_l ((10 ^ p : Nat) : Int))) : ∀ (d i : Nat) (x : Int64) (y : Int32), i + d = p → x = ar_l ((10 ^ i : Nat) : Int) → y = nI i → wX_tenTo_4 post (nI p) (d + 1) x y
  | 0, i, x, y, hi, hx, hy => by
    subst hx hy
    have e : i = p := by omega
    subst e
    exact br_t (nI_le (Nat.le_refl _) (by omega)) h
  | d + 1, i, x, y, hi, hx, hy => by
    subst hx hy
    exact br_f (nI_ge (by omega) (by omega)) (br_f (nI_ge (b := 9) (by omega) (by decide)) (nm_e (nm_e (xw_tenL hp h d (i + 1) _ _ (by omega) (ar_p10 i) (nI_1 i)))))
theorem xw_ten {post : Int64 → Prop} {p : Nat} (hp : p ≤ 9) (h : post (ar_l ((10 ^ p : Nat) : Int))) : wpX_tenTo post (nI p) :=
  ⟨p + 1, xw_tenL hp h p 0 _ _ (by omega) (by decide) rfl⟩
theorem xw_len {post : Int64 → Prop} {p : Nat} {V : Int} (hp : p ≤ 9) (h : post (ar_l (V * ((10 ^ p : Nat) : Int)))) : wpX_lengthened post (ar_l V) (nI p) :=
  xw_ten (post := fun r => post (ar_l V * r)) hp (by rw [ar_mul]; exact h)
theorem yw_tenL {post : Int64 → Prop} {p : Nat} (hp : p ≤ 18) (h : post (ar_l ((10 ^ p : Nat) : Int))) : ∀ (d i : Nat) (x : Int64) (y : Int32), i + d = p → x = ar_l ((10 ^ i : Nat) : Int) → y = nI i → wY_ten_4 post (nI p) (d + 1) x y
  | 0, i, x, y, hi, hx, hy => by
    subst hx hy
    have e : i = p := by omega
    subst e
    exact br_t (nI_le (Nat.le_refl _) (by omega)) h
  | d + 1, i, x, y, hi, hx, hy => by
    subst hx hy
    exact br_f (nI_ge (by omega) (by omega)) (nm_e (nm_e (yw_tenL hp h d (i + 1) _ _ (by omega) (ar_p10 i) (nI_1 i))))
theorem yw_ten {post : Int64 → Prop} {p : Nat} (hp : p ≤ 18) (h : post (ar_l ((10 ^ p : Nat) : Int))) : wpY_ten post (nI p) :=
  ⟨p + 1, yw_tenL hp h p 0 _ _ (by omega) (by decide) rfl⟩
theorem xw_sh0 {post : Int64 → Prop} {d m : Nat} {s : Bool} (hd : d ≤ 9) (hm : m < 9000000000000000000) (h : post (ar_l (ar_s s (m / 10 ^ d)))) : ∀ (k i : Nat) (x : Int64) (y : Int32), i + k = d → x = ar_l (ar_s s (m / 10 ^ i)) → y = nI i → wX_shortened_6 post (nI d) 0 (k + 1) x y
  | 0, i, x, y, hi, hx, hy => by
    subst hx hy
    have e : i = d := by omega
    subst e
    exact br_t (nI_le (Nat.le_refl _) (by omega)) h
  | k + 1, i, x, y, hi, hx, hy => by
    subst hx hy
    have hq : m / 10 ^ i ≤ m := Nat.div_le_self _ _
    refine br_f (nI_ge (by omega) (by omega)) (br_t rfl ⟨by decide, nm_e (nm_e (xw_sh0 hd hm h k (i + 1) _ _ (by omega) ?_ (nI_1 i)))⟩)
    rw [ar_d10 s (by omega), Nat.div_div_eq_div_mul, ← Nat.pow_succ]
theorem xw_sh1 {post : Int64 → Prop} {d m : Nat} {s : Bool} (hd : d ≤ 9) (hm : m < 9000000000000000000) (h : post (ar_l (ar_s s ((m / 10 ^ (d - 1) + 5) / 10)))) : ∀ (k i : Nat) (x : Int64) (y : Int32), i + (k + 1) = d → x = ar_l (ar_s s (m / 10 ^ i)) → y = nI i → wX_shortened_6 post (nI d) 1 (k + 1 + 1) x y
  | 0, i, x, y, hi, hx, hy => by
    subst hx hy
    have hq : m / 10 ^ i ≤ m := Nat.div_le_self _ _
    have e : d = i + 1 := by omega
    subst e
    rw [Nat.add_sub_cancel] at h
    generalize m / 10 ^ i = u at *
    have hl : nI (i + 1) ≤ nI i + 1 := by rw [nI_1]; exact nI_le (Nat.le_refl _) (by omega)
    have hB : ar_B (ar_s s (u)) := ar_sB (by omega)
    refine br_f (nI_ge (by omega) (by omega)) (br_f (by decide) (br_t (nI_pred i).symm (br_c (fun hc => ?_) (fun hc => ?_))))
    · rw [ar_le0 hB] at hc
      refine nm_e ⟨by decide, nm_e (nm_e (br_t hl ?_))⟩
      have e2 : ar_l (ar_s s (u)) + 5 = ar_l (ar_s false (u + 5)) := by
        rw [ar_5, ar_add]
        cases s with
        | false => rfl
        | true =>
          have h0 : (0 : Int) ≤ -(u : Int) := hc
          have h1 : u = 0 := by omega
          rw [h1]
          rfl
      rw [e2, ar_d10 false (by omega)]
      cases s with
      | false => exact h
      | true =>
        have h0 : (0 : Int) ≤ -(u : Int) := hc
        have h1 : u = 0 := by omega
        rw [h1] at h ⊢
        exact h
    · rw [ar_le0 hB] at hc
      refine nm_e ⟨by decide, nm_e (nm_e (br_t hl ?_))⟩
      cases s with
      | false => exact absurd (show (0 : Int) ≤ (u : Int) from by omega) hc
      | true =>
        have e2 : ar_l (ar_s true (u)) - 5 = ar_l (ar_s true (u + 5)) := by
          rw [ar_5, ar_sub]
          refine congrArg ar_l ?_
          show -(u : Int) - 5 = -((u + 5 : Nat) : Int)
          omega
        rw [e2, ar_d10 true (by omega)]
        exact h
  | k + 1, i, x, y, hi, hx, hy => by
    subst hx hy
    have hq : m / 10 ^ i ≤ m := Nat.div_le_self _ _
    have hne : ¬ nI i = nI d - 1 := by
      obtain ⟨c, rfl⟩ : ∃ c, d = c + 1 := ⟨d - 1, by omega⟩
      rw [nI_pred, nI_eq (by omega) (by omega)]
      omega
    refine br_f (nI_ge (by omega) (by omega)) (br_f (by decide) (br_f hne ⟨by decide, nm_e (nm_e (xw_sh1 hd hm h k (i + 1) _ _ (by omega) ?_ (nI_1 i)))⟩))
    rw [ar_d10 s (by omega), Nat.div_div_eq_div_mul, ← Nat.pow_succ]
def rd_b (r : Bool) : Int32 := if r = true then 1 else 0
theorem xw_short {post : Int64 → Prop} {d m : Nat} {s r : Bool} (hd : d ≤ 9) (hm : m < 9000000000000000000) (h : post (ar_l (ar_s s (rd_q m (10 ^ d) r)))) : wpX_shortened post (ar_l (ar_s s m)) (nI d) (rd_b r) := by
  rw [← rd_eq] at h
  cases r with
  | false =>
    have h : post (ar_l (ar_s s (m / 10 ^ d))) := h
    exact ⟨d + 1, xw_sh0 hd hm h d 0 _ _ (by omega) (by rw [Nat.pow_zero, Nat.div_one]) rfl⟩
  | true =>
    cases d with
    | zero =>
      have h : post (ar_l (ar_s s (m / 10 ^ 0))) := h
      rw [Nat.pow_zero, Nat.div_one] at h
      exact ⟨1, br_t (nI_le (Nat.le_refl _) (by decide)) h⟩
    | succ e =>
      have h : post (ar_l (ar_s s ((m / 10 ^ (e + 1 - 1) + 5) / 10))) := h
      exact ⟨e + 1 + 1, xw_sh1 hd hm h e 0 _ _ (by omega) (by rw [Nat.pow_zero, Nat.div_one]) rfl⟩
theorem ar_pos {s : Bool} {m : Nat} (hm : m < 9223372036854775808) (h : s = true → 0 < m) : (0 : Int64) ≤ ar_l (ar_s s m) ↔ s = false := by
  rw [ar_le0 (ar_sB hm)]
  cases s with
  | false => exact ⟨fun _ => rfl, fun _ => (show (0 : Int) ≤ (m : Int) from by omega)⟩
  | true =>
    have := h rfl
    exact ⟨fun z => absurd (show (0 : Int) ≤ -(m : Int) from z) (by omega), fun z => absurd z (by decide)⟩
theorem ar_rm {a b : Nat} (ha : a < 9223372036854775808) (hb : b < 9223372036854775808) : ar_l (a : Int) - ar_l (a : Int) / ar_l (b : Int) * ar_l (b : Int) = ar_l ((a % b : Nat) : Int) := by
  rw [ar_rem (ar_nB ha) (ar_nB hb)]
  rfl
theorem ar_dv {a b : Nat} (ha : a < 9223372036854775808) (hb : b < 9223372036854775808) : ar_l (a : Int) / ar_l (b : Int) = ar_l ((a / b : Nat) : Int) := by
  rw [ar_div (ar_nB ha) (ar_nB hb)]
  rfl
theorem ar_ltn {a b : Nat} (ha : a < 9223372036854775808) (hb : b < 9223372036854775808) : ar_l (a : Int) < ar_l (b : Int) ↔ a < b := by
  rw [ar_lt (ar_nB ha) (ar_nB hb)]
  exact Int.ofNat_lt
theorem ar_n0 {a : Nat} (h0 : 0 < a) (ha : a < 9223372036854775808) : ¬ ar_l (a : Int) = 0 := by
  rw [ar_eq0 (ar_nB ha)]
  omega
theorem xw_q94 {post : Int64 → Prop} {sa sb : Bool} {q : Nat} (h : post (ar_l (ar_s (sa != sb) q))) : wX_quotient_94 post (ar_l (q : Int)) (rd_b sb) (rd_b sa) := by
  cases sa <;> cases sb
  · exact br_t rfl h
  · exact br_f (by decide) (by rw [ar_neg]; exact h)
  · exact br_f (by decide) (by rw [ar_neg]; exact h)
  · exact br_t rfl h
theorem xw_q72 {post : Int64 → Prop} {sa sb : Bool} {ma mb q : Nat} (ha : ma < 9223372036854775808) (hb : mb < 9223372036854775808) (h1 : sa = true → 0 < ma) (h2 : sb = true → 0 < mb) (h : post (ar_l (ar_s (sa != sb) q))) : wX_quotient_72 post (ar_l (ar_s sa ma)) (ar_l (ar_s sb mb)) (ar_l (q : Int)) := by
  have k : wX_quotient_83 post (ar_l (ar_s sb mb)) (ar_l (q : Int)) (rd_b sa) := by
    cases sb with
    | false => exact br_t ((ar_pos hb h2).mpr rfl) (xw_q94 h)
    | true => exact br_f (fun z => absurd ((ar_pos hb h2).mp z) (by decide)) (xw_q94 h)
  cases sa with
  | false => exact br_t ((ar_pos ha h1).mpr rfl) k
  | true => exact br_f (fun z => absurd ((ar_pos ha h1).mp z) (by decide)) k
theorem xw_quot {post : Int64 → Prop} {sa sb r : Bool} {ma mb : Nat} (ha : ma < 9000000000000000000) (hb : mb < 9000000000000000000) (h0 : 0 < mb) (h1 : sa = true → 0 < ma) (h : post (ar_l (ar_s (sa != sb) (rd_q ma mb r)))) : wpX_quotient post (ar_l (ar_s sa ma)) (ar_l (ar_s sb mb)) (rd_b r) := by
  have hz : ¬ ar_l (ar_s sb mb) = 0 := by
    rw [ar_eq0 (ar_sB (by omega))]
    cases sb with
    | false => exact fun z => absurd (show (mb : Int) = 0 from z) (by omega)
    | true => exact fun z => absurd (show -(mb : Int) = 0 from z) (by omega)
  have hr : ma % mb < mb := Nat.mod_lt _ h0
  have hd : ma / mb ≤ ma := Nat.div_le_self _ _
  refine br_f hz (ar_ab (by omega) (fun z => wX_quotient_20 post (ar_l (ar_s sa ma)) (ar_l (ar_s sb mb)) (rd_b r) z) ?_)
  refine ar_ab (by omega) (fun z => wX_quotient_34 post (ar_l (ar_s sa ma)) (ar_l (ar_s sb mb)) (rd_b r) (ar_l (ma : Int)) z) ?_
  refine ⟨ar_n0 h0 (by omega), nm_r (ar_dv (by omega) (by omega)) ⟨ar_n0 h0 (by omega), nm_r (ar_rm (by omega) (by omega)) ?_⟩⟩
  unfold rd_q at h
  cases r with
  | false =>
    rw [if_neg (fun z => absurd z.1 (by decide))] at h
    exact br_t rfl (xw_q72 (by omega) (by omega) h1 (fun _ => h0) h)
  | true =>
    refine br_f (by decide) ?_
    have e : ar_l (mb : Int) - ar_l ((ma % mb : Nat) : Int) = ar_l ((mb - ma % mb : Nat) : Int) := by
      rw [ar_sub]
      exact congrArg ar_l (by omega)
    rw [e, ar_ltn (by omega) (by omega)]
    by_cases hc : mb ≤ 2 * (ma % mb)
    · rw [if_pos ⟨rfl, hc⟩] at h
      refine br_f (by omega) (nm_r (e' := ar_l ((ma / mb + 1 : Nat) : Int)) (by rw [ar_1, ar_add]; rfl) ?_)
      exact xw_q72 (by omega) (by omega) h1 (fun _ => h0) h
    · rw [if_neg (fun z => hc z.2)] at h
      exact br_t (by omega) (xw_q72 (by omega) (by omega) h1 (fun _ => h0) h)
theorem ar_i10 {q : Nat} (hq : q < 9223372036854775808) : (ar_l (q : Int) - ar_l (q : Int) / 10 * 10).toInt32 = nI (q % 10) := by
  have e : ar_l (q : Int) - ar_l (q : Int) / 10 * 10 = ar_l ((q % 10 : Nat) : Int) := ar_rm (b := 10) hq (by decide)
  rw [e, ← ar_N, lN_i]
theorem yw_digit {post : Int32 → Prop} {s : Bool} {m has wants k : Nat} (hm : m < 9000000000000000000) (h1 : has ≤ 9) (h2 : wants ≤ 9) (h3 : k ≤ 9) (h : post (nI (dg_d m has wants k))) : wpY_digit post (ar_l (ar_s s m)) (nI has) (nI wants) (nI k) := by
  have e : nI k - nI wants + nI has = nI (k + has) - nI wants := by
    rw [← nI_add]
    grind
  refine nm_r e (ar_ab (by omega) (fun z => wY_digit_20 post (nI (k + has) - nI wants) z) ?_)
  unfold dg_d at h
  by_cases hc : k + has < wants
  · rw [if_pos hc] at h
    exact br_f (Int32.not_le.mpr (pk_sneg (by omega) hc)) h
  · rw [if_neg hc] at h
    rw [pk_sub (by omega)]
    have hp : 10 ^ (k + has - wants) ≤ 10 ^ 18 := ar_ple (by omega)
    have hp0 : 0 < 10 ^ (k + has - wants) := ar_pp _
    have hd : m / 10 ^ (k + has - wants) ≤ m := Nat.div_le_self _ _
    refine br_t (nI_pos' (by omega)) (br_t (nI_le (b := 18) (by omega) (by decide)) (yw_ten (by omega) ⟨ar_n0 hp0 (Nat.lt_of_le_of_lt hp (by decide)), by decide, ?_⟩))
    rw [ar_dv (by omega) (Nat.lt_of_le_of_lt hp (by decide)), ar_i10 (by omega)]
    exact h
end
section
/-! the walks that look an item up -/
theorem yi_in {post : Int32 → Prop} {v l m : Int32} (h1 : l ≤ v → v ≤ m → post 1) (h0 : ¬ (l ≤ v ∧ v ≤ m) → post 0) : wpY_in post v l m :=
  br_c (fun a => h0 (fun z => absurd z.1 (Int32.not_le.mpr a))) (fun a => br_c (fun b => h0 (fun z => absurd z.2 (Int32.not_le.mpr b))) (fun b => h1 (Int32.not_lt.mp a) (Int32.not_lt.mp b)))
section
variable {cn ck fp pg ob hr sp ix sz pf sc ye yj : Int32}
variable {st kd pl wd tm dg dc ss pc op ox oy oz ps jp oi pa pt sh lc rc dr ln sn sd ch oth lw hg le bk fm vy : Nat → Int32}
variable {K A W T D B S L e j : Nat}
theorem xi_place {post : Int32 → Prop} (hj : j < 12) (R : it_R kd pl wd tm dg dc ss pc ln sn sd j K A W T D B S L) (hx : it_X ix T e) (h : post (nI (A + (e - 1) * W))) : wpX_placeNow post (cn, ck, fp, pg, ob, hr, sp, ix, sz, pf, sc, st, kd, pl, wd, tm, dg, dc, ss, pc, op, ox, oy, oz, ps, jp, oi, pa, pt, sh, lc, rc, dr) (nI j) := by
  obtain ⟨⟨r1, r2, r3, r4, r5, r6, r7, r8⟩, ⟨k1, k2, k3, k4, k5, k6, k7, k8, k9, k10, k11⟩, -, -, -⟩ := R
  obtain ⟨x1, x2, x3⟩ := hx
  have v : vp_in (nI j) 12 := vp_in_nI hj (by decide)
  refine ⟨v, ?_⟩
  rw [nI_clamp (by omega), r4, r2, r3]
  by_cases hT : T = 1
  · have he : e = 1 := by omega
    subst he
    rw [Nat.sub_self, Nat.zero_mul, Nat.add_zero] at h
    exact br_t (nI_le (b := 1) (by omega) (by decide)) ⟨v, h⟩
  · rcases x3 with x3 | x3
    · exact absurd x3 hT
    · obtain ⟨c, rfl⟩ : ∃ c, e = c + 1 := ⟨e - 1, by omega⟩
      refine br_f (nI_ge (a := 1) (by omega) (by omega)) ⟨v, v, ?_⟩
      rw [x3, nI_pred, pk_mul, nI_add]
      exact h
theorem yi_width {post : Int32 → Prop} (hj : j < 12) (R : it_R kd pl wd tm dg dc ss pc ln sn sd j K A W T D B S L) (h : post (nI W)) : wpY_width post (cn, fp, ck, pf, hr, sp, ix, sc, ye, sz, yj, st, kd, pl, ln, dc, tm, sn, sd, op, ox, oy, oz, sh, ch, oth, lw, hg, le, bk, fm, vy) (nI j) := by
  obtain ⟨⟨r1, r2, r3, r4, r5, r6, r7, r8⟩, ⟨k1, k2, k3, k4, k5, k6, k7, k8, k9, k10, k11⟩, q1, q2, -⟩ := R
  have v : vp_in (nI j) 12 := vp_in_nI hj (by decide)
  refine ⟨v, v, ?_⟩
  rw [nI_clamp (by omega), r1, r8]
  by_cases hK : K = 1
  · subst hK
    obtain ⟨-, -, -, q⟩ := q1 rfl
    refine br_t rfl ⟨v, ?_⟩
    rw [q]
    by_cases hS : S = 0
    · subst hS
      rw [k7] at h
      exact br_t rfl (by rw [Int32.add_zero]; exact h)
    · have e1 : S = 1 := by omega
      subst e1
      rw [k7] at h
      exact br_f (nI_ne0 (by omega) (by omega)) (by rw [nI_1]; exact h)
  · have e0 : S = 0 := q2 hK
    subst e0
    rw [k7] at h
    refine br_f ?_ (by rw [Int32.add_zero]; exact h)
    intro z
    exact hK ((nI_eq (b := 1) (by omega) (by decide)).mp z)
theorem yi_sign {post : Int32 → Prop} (hj : j < 12) (R : it_R kd pl wd tm dg dc ss pc ln sn sd j K A W T D B S L) (h : post (nI S)) : wpY_hasSign post (cn, fp, ck, pf, hr, sp, ix, sc, ye, sz, yj, st, kd, pl, ln, dc, tm, sn, sd, op, ox, oy, oz, sh, ch, oth, lw, hg, le, bk, fm, vy) (nI j) := by
  obtain ⟨⟨r1, r2, r3, r4, r5, r6, r7, r8⟩, ⟨k1, k2, k3, k4, k5, k6, k7, k8, k9, k10, k11⟩, q1, q2, -⟩ := R
  have v : vp_in (nI j) 12 := vp_in_nI hj (by decide)
  refine ⟨v, ?_⟩
  rw [nI_clamp (by omega), r1]
  by_cases hK : K = 1
  · subst hK
    obtain ⟨-, -, -, q⟩ := q1 rfl
    refine br_t rfl ⟨v, ?_⟩
    rw [q]
    by_cases hS : S = 0
    · subst hS
      exact br_t rfl h
    · have e1 : S = 1 := by omega
      subst e1
      exact br_f (nI_ne0 (by omega) (by omega)) h
  · have e0 : S = 0 := q2 hK
    subst e0
    refine br_f ?_ h
    intro z
    exact hK ((nI_eq (b := 1) (by omega) (by decide)).mp z)
theorem yi_spot {post : Int32 → Prop} (hj : j < 12) (R : it_R kd pl wd tm dg dc ss pc ln sn sd j K A W T D B S L) (he : 1 ≤ e) (h : post (nI (A + (e - 1) * W))) : wpY_spot post (cn, fp, ck, pf, hr, sp, ix, sc, ye, sz, yj, st, kd, pl, ln, dc, tm, sn, sd, op, ox, oy, oz, sh, ch, oth, lw, hg, le, bk, fm, vy) (nI j) (nI e) := by
  have v : vp_in (nI j) 12 := vp_in_nI hj (by decide)
  refine ⟨v, yi_width hj R ?_⟩
  obtain ⟨c, rfl⟩ : ∃ c, e = c + 1 := ⟨e - 1, by omega⟩
  rw [nI_clamp (by omega), R.1.2.1, nI_pred, pk_mul, nI_add]
  exact h
theorem yi_elem {post : Int32 → Prop} (hj : j < 12) (R : it_R kd pl wd tm dg dc ss pc ln sn sd j K A W T D B S L) (hx : it_X ix T e) (h : post (nI e)) : wpY_element post (cn, fp, ck, pf, hr, sp, ix, sc, ye, sz, yj, st, kd, pl, ln, dc, tm, sn, sd, op, ox, oy, oz, sh, ch, oth, lw, hg, le, bk, fm, vy) (nI j) := by
  obtain ⟨⟨r1, r2, r3, r4, r5, r6, r7, r8⟩, ⟨k1, k2, k3, k4, k5, k6, k7, k8, k9, k10, k11⟩, -, -, -⟩ := R
  obtain ⟨x1, x2, x3⟩ := hx
  have v : vp_in (nI j) 12 := vp_in_nI hj (by decide)
  refine ⟨v, ?_⟩
  rw [nI_clamp (by omega), r4]
  by_cases hT : T = 1
  · have he : e = 1 := by omega
    subst he
    subst hT
    exact br_t rfl h
  · rcases x3 with x3 | x3
    · exact absurd x3 hT
    · rw [x3]
      exact br_f (fun z => hT ((nI_eq (b := 1) (by omega) (by decide)).mp z)) h
theorem xi_item {post : Int32 → Prop} {x : Int32} (h1 : ft_i kd x → post 1) (h0 : ¬ ft_i kd x → post 0) : wpX_isItem post (cn, ck, fp, pg, ob, hr, sp, ix, sz, pf, sc, st, kd, pl, wd, tm, dg, dc, ss, pc, op, ox, oy, oz, ps, jp, oi, pa, pt, sh, lc, rc, dr) x := by
  rcases pk_ix x (n := 12) (by decide) with h | h | ⟨i, hi, rfl⟩
  · refine br_t h (h0 ?_)
    rintro ⟨i, hi, rfl, -⟩
    exact nI_pos (by omega) h
  · refine br_f (fun z => ?_) (br_t h (h0 ?_))
    · exact absurd (Int32.lt_of_le_of_lt h z) (by decide)
    · rintro ⟨i, hi, rfl, -⟩
      exact nI_ge hi (by decide) h
  · refine br_f (nI_pos (by omega)) (br_f (nI_ge (b := 12) hi (by decide)) ⟨vp_in_nI hi (by decide), ?_⟩)
    rw [nI_clamp (by omega)]
    refine br_c (fun z => h0 ?_) (fun z => h1 ⟨i, hi, rfl, z⟩)
    rintro ⟨k, hk, e, q⟩
    rw [nI_eq (by omega) (by omega)] at e
    subst e
    exact q z
theorem xi_sort {post : Int32 → Prop} {x s : Int32} (h1 : ft_s kd x s → post 1) (h0 : ¬ ft_s kd x s → post 0) : wpX_isSort post (cn, ck, fp, pg, ob, hr, sp, ix, sz, pf, sc, st, kd, pl, wd, tm, dg, dc, ss, pc, op, ox, oy, oz, ps, jp, oi, pa, pt, sh, lc, rc, dr) x s := by
  rcases pk_ix x (n := 12) (by decide) with h | h | ⟨i, hi, rfl⟩
  · refine br_t h (h0 ?_)
    rintro ⟨i, hi, rfl, -⟩
    exact nI_pos (by omega) h
  · refine br_f (fun z => ?_) (br_t h (h0 ?_))
    · exact absurd (Int32.lt_of_le_of_lt h z) (by decide)
    · rintro ⟨i, hi, rfl, -⟩
      exact nI_ge hi (by decide) h
  · refine br_f (nI_pos (by omega)) (br_f (nI_ge (b := 12) hi (by decide)) ⟨vp_in_nI hi (by decide), ?_⟩)
    rw [nI_clamp (by omega)]
    refine br_c (fun z => h1 ⟨i, hi, rfl, z⟩) (fun z => h0 ?_)
    rintro ⟨k, hk, e, q⟩
    rw [nI_eq (by omega) (by omega)] at e
    subst e
    exact z q
theorem yi_item {post : Int32 → Prop} {x : Int32} (h1 : ft_i kd x → post 1) (h0 : ¬ ft_i kd x → post 0) : wpY_isItem post (cn, fp, ck, pf, hr, sp, ix, sc, ye, sz, yj, st, kd, pl, ln, dc, tm, sn, sd, op, ox, oy, oz, sh, ch, oth, lw, hg, le, bk, fm, vy) x := by
  unfold wpY_isItem
  refine yi_in ?_ ?_
  · intro a b
    obtain ⟨i, hi, rfl⟩ : ∃ i, i < 12 ∧ x = nI i := by
      obtain ⟨i, hi, rfl⟩ := nI_of (Int32.not_lt.mpr a)
      exact ⟨i, by have := (nI_leI (b := 11) hi (by decide)).mp b; omega, rfl⟩
    refine br_f (by decide) ⟨vp_in_nI hi (by decide), ?_⟩
    rw [nI_clamp (by omega)]
    refine br_c (fun z => h0 ?_) (fun z => h1 ⟨i, hi, rfl, z⟩)
    rintro ⟨k, hk, e, q⟩
    rw [nI_eq (by omega) (by omega)] at e
    subst e
    exact q z
  · intro z
    refine br_t rfl (h0 ?_)
    rintro ⟨i, hi, rfl, -⟩
    exact z ⟨nI_pos' (by omega), nI_le (b := 11) (by omega) (by decide)⟩
theorem yi_sort {post : Int32 → Prop} {x s : Int32} (hs : ¬ s = 0) (h1 : ft_s kd x s → post 1) (h0 : ¬ ft_s kd x s → post 0) : wpY_isSort post (cn, fp, ck, pf, hr, sp, ix, sc, ye, sz, yj, st, kd, pl, ln, dc, tm, sn, sd, op, ox, oy, oz, sh, ch, oth, lw, hg, le, bk, fm, vy) x s := by
  unfold wpY_isSort
  refine yi_item ?_ ?_
  · intro a
    obtain ⟨i, hi, rfl, hn⟩ := a
    refine br_f (by decide) ⟨vp_in_nI hi (by decide), ?_⟩
    rw [nI_clamp (by omega)]
    refine br_c (fun z => h1 ⟨i, hi, rfl, z⟩) (fun z => h0 ?_)
    rintro ⟨k, hk, e, q⟩
    rw [nI_eq (by omega) (by omega)] at e
    subst e
    exact z q
  · intro z
    refine br_t rfl (h0 ?_)
    rintro ⟨i, hi, rfl, q⟩
    exact z ⟨i, hi, rfl, fun w => hs (q.symm.trans w)⟩
theorem xi_dec {post : Int32 → Prop} (hj : j < 12) (R : it_R kd pl wd tm dg dc ss pc ln sn sd j K A W T D B S L) (h : post (nI B)) : wpX_operandDecimals post (cn, ck, fp, pg, ob, hr, sp, ix, sz, pf, sc, st, kd, pl, wd, tm, dg, dc, ss, pc, op, ox, oy, oz, ps, jp, oi, pa, pt, sh, lc, rc, dr) (nI j) := by
  refine br_f (fun z => ?_) ⟨vp_in_nI hj (by decide), ?_⟩
  · have := (nI_eq (b := 16) (by omega) (by decide)).mp z
    omega
  · rw [nI_clamp (by omega), R.1.2.2.2.2.2.1]
    exact h
end
end
section
/-! valueAt of both sides -/
theorem vs_stp {v : Nat} {c : Int32} (hv : v < 1000000000) (hc : ¬ c < 0) : ((ar_l (v : Int) * 10) + c.toInt64) - ((ar_l (v : Int) * 10) + c.toInt64) / 1000000000 * 1000000000 = ar_l (((v * 10 + c.toNatClampNeg) % 1000000000 : Nat) : Int) := by
  obtain ⟨q, hq, rfl⟩ := nI_of hc
  rw [nI_clamp hq, nI_l hq, ar_N, ar_10, ar_mul, ar_add]
  exact ar_rm (a := v * 10 + q) (b := 1000000000) (by omega) (by decide)
theorem vs_x10 (v : Nat) : ar_l (v : Int) * 10 = ar_l ((v * 10 : Nat) : Int) := by
  rw [ar_10, ar_mul]
  rfl
theorem vs_9 {c : Int32} : 9 < c ↔ ¬ c ≤ 9 := Int32.not_le.symm
section
variable {cn ck fp pg ob hr sp ix sz pf sc ye yj : Int32}
variable {st kd pl wd tm dg dc ss pc op ox oy oz ps jp oi pa pt sh lc rc dr ln sn sd ch oth lw hg le bk fm vy : Nat → Int32}
variable {K A W T D B S L e j F : Nat}
theorem xv_143 {post : Int64 → Prop} {b : Bool} {m : Nat} (h : post (ar_l (ar_s b m))) : wX_valueAt_143 post (rd_b b) (ar_l (m : Int)) cn ck fp pg ob hr sp ix sz pf sc st kd pl wd tm dg dc ss pc op ox oy oz ps jp oi pa pt sh lc rc dr := by
  cases b with
  | false => exact br_t rfl h
  | true => exact br_f (by decide) (by rw [ar_neg]; exact h)
theorem xv_loop {post : Int64 → Prop} {g : Int32} (hj : j < 12) (hk : kd j = nI K) (hw : wd j = nI W) (hS : S ≤ 1) (hSW : S ≤ W) (hK1 : K = 1 → W - S ≤ 9) (hK3 : K ≠ 1 → S = 0) (hKr : K ≤ 3) (hF : F + W ≤ 96) (ok : st_ok st)
    (hg : (g = 0 ∧ K = 1) ∨ (¬ g = 0 ∧ K ≠ 1)) (h : post (ar_l (vl_v st K F W S))) : ∀ (d k : Nat) (x4 : Int32) (x6 : Int64) (x8 : Int32), S + k + d = W → x4 = rd_b (decide (K = 3) && vs_m st F (S + k)) → x6 = ar_l ((vs_f K st (F + S) k : Nat) : Int) → x8 = nI (S + k) →
    wX_valueAt_34 post (nI j) (nI F) g (nI S) cn ck fp pg ob hr sp ix sz pf sc st kd pl wd tm dg dc ss pc op ox oy oz ps jp oi pa pt sh lc rc dr (d + 1) x4 x6 x8
  | 0, k, x4, x6, x8, hd, h4, h6, h8 => by
    subst h4 h6 h8
    have v : vp_in (nI j) 12 := vp_in_nI hj (by decide)
    have ek : S + k = W := by omega
    have ek2 : k = W - S := by omega
    refine ⟨v, ?_⟩
    rw [nI_clamp (by omega), hw]
    refine br_t (nI_le (by omega) (by omega)) ?_
    unfold vl_v vl_m vl_s at h
    rw [← ek2] at h
    by_cases h0 : S = 0
    · subst h0
      refine br_t (nI_le (b := 0) (by omega) (by decide)) (xv_143 ?_)
      rw [ek]
      exact h
    · have h1 : S = 1 := by omega
      subst h1
      have hK : K = 1 := Classical.byContradiction fun z => h0 (hK3 z)
      subst hK
      refine br_f (nI_ge (a := 0) (by omega) (by omega)) ⟨vp_in_nI (by omega) (by decide), ?_⟩
      rw [nI_clamp (by omega)]
      refine br_c (fun c => xv_143 (b := true) ?_) (fun c => xv_143 (b := false) ?_)
      · rw [c] at h
        exact h
      · rw [show decide (st F = 11) = false from decide_eq_false c] at h
        exact h
  | d + 1, k, x4, x6, x8, hd, h4, h6, h8 => by
    subst h4 h6 h8
    have v : vp_in (nI j) 12 := vp_in_nI hj (by decide)
    have hvl : vs_f K st (F + S) k < 1000000000 := vs_lt st _ _ (fun z => by have := hK1 z; omega)
    refine ⟨v, ?_⟩
    rw [nI_clamp (show j < 2 ^ 31 by omega), hw]
    refine br_f (nI_ge (by omega) (by omega)) ?_
    rw [nI_add, nI_clamp (show F + (S + k) < 2 ^ 31 by omega)]
    refine ⟨vp_in_nI (by omega) (by decide), nm_e ?_⟩
    have eA : F + S + k = F + (S + k) := by omega
    have key : ∀ x6' : Int64, x6' = ar_l ((vs_f K st (F + S) (k + 1) : Nat) : Int) → wX_valueAt_94 post (wX_valueAt_34 post (nI j) (nI F) g (nI S) cn ck fp pg ob hr sp ix sz pf sc st kd pl wd tm dg dc ss pc op ox oy oz ps jp oi pa pt sh lc rc dr (d + 1)) (nI j) (nI F) g (rd_b (decide (K = 3) && vs_m st F (S + k))) (nI S) x6' (nI (S + k)) (st (F + (S + k))) cn ck fp pg ob hr sp ix sz pf sc st kd pl wd tm dg dc ss pc op ox oy oz ps jp oi pa pt sh lc rc dr := by
      intro x6' e6
      have IH : ∀ x4' : Int32, x4' = rd_b (decide (K = 3) && vs_m st F (S + (k + 1))) → wX_valueAt_34 post (nI j) (nI F) g (nI S) cn ck fp pg ob hr sp ix sz pf sc st kd pl wd tm dg dc ss pc op ox oy oz ps jp oi pa pt sh lc rc dr (d + 1) x4' x6' (nI (S + k) + 1) := fun x4' e4 =>
        xv_loop hj hk hw hS hSW hK1 hK3 hKr hF ok hg h d (k + 1) x4' x6' _ (by omega) e4 e6 (nI_1 _)
      have em : vs_m st F (S + (k + 1)) = (decide (st (F + (S + k)) = 11) || vs_m st F (S + k)) := rfl
      refine br_c (fun c => ⟨v, ?_⟩) (fun c => nm_e (IH _ ?_))
      · rw [nI_clamp (show j < 2 ^ 31 by omega), hk]
        by_cases h3 : K = 3
        · subst h3
          refine br_t rfl (nm_e (IH _ ?_))
          rw [em, c]
          rfl
        · refine br_f (fun z => h3 ((nI_eq (b := 3) (by omega) (by decide)).mp z)) (nm_e (IH _ ?_))
          rw [show decide (K = 3) = false from decide_eq_false h3]
          rfl
      · rw [em, show decide (st (F + (S + k)) = 11) = false from decide_eq_false c, Bool.false_or]
    have es : vs_f K st (F + S) (k + 1) = if st (F + (S + k)) ≤ 9 then (vs_f K st (F + S) k * 10 + (st (F + (S + k))).toNatClampNeg) % 1000000000 else if K = 1 then vs_f K st (F + S) k * 10 else vs_f K st (F + S) k := by
      rw [← eA]
      rfl
    by_cases hc : st (F + (S + k)) ≤ 9
    · rw [if_pos hc] at es
      refine br_f (fun z => vs_9.mp z hc) ⟨by decide, nm_e (key _ ?_)⟩
      rw [es]
      exact vs_stp hvl (ok _)
    · rw [if_neg hc] at es
      refine br_t (vs_9.mpr hc) ?_
      rcases hg with ⟨g0, gK⟩ | ⟨g0, gK⟩
      · rw [if_pos gK] at es
        refine br_t g0 (nm_e (key _ ?_))
        rw [es]
        exact vs_x10 _
      · rw [if_neg gK] at es
        refine br_f g0 (key _ ?_)
        rw [es]
theorem xv_value {post : Int64 → Prop} (hj : j < 12) (R : it_R kd pl wd tm dg dc ss pc ln sn sd j K A W T D B S L) (hF : F + W ≤ 96) (ok : st_ok st) (h : post (ar_l (vl_v st K F W S))) : wpX_valueAt post (cn, ck, fp, pg, ob, hr, sp, ix, sz, pf, sc, st, kd, pl, wd, tm, dg, dc, ss, pc, op, ox, oy, oz, ps, jp, oi, pa, pt, sh, lc, rc, dr) (nI j) (nI F) := by
  obtain ⟨⟨r1, r2, r3, r4, r5, r6, r7, r8⟩, ⟨k1, k2, k3, k4, k5, k6, k7, k8, k9, k10, k11⟩, q1, q2, -⟩ := R
  have v : vp_in (nI j) 12 := vp_in_nI hj (by decide)
  have go : ∀ g : Int32, (g = 0 ∧ K = 1) ∨ (¬ g = 0 ∧ K ≠ 1) → wX_valueAt_15 post (nI j) (nI F) g cn ck fp pg ob hr sp ix sz pf sc st kd pl wd tm dg dc ss pc op ox oy oz ps jp oi pa pt sh lc rc dr := by
    intro g hg
    refine ⟨v, nm_e ?_⟩
    rw [nI_clamp (by omega), r7]
    refine ⟨W - S + 1, xv_loop hj r1 r3 k9 (by omega) (fun z => by have := (q1 z).2.1; omega) q2 k2 hF ok hg h (W - S) 0 _ _ _ (by omega) ?_ rfl rfl⟩
    by_cases h3 : K = 3
    · subst h3
      have := q2 (by decide)
      subst this
      rfl
    · rw [show decide (K = 3) = false from decide_eq_false h3]
      rfl
  refine ⟨v, ?_⟩
  rw [nI_clamp (by omega), r1]
  by_cases hK : K = 1
  · subst hK
    exact br_t rfl (go 0 (Or.inl ⟨rfl, rfl⟩))
  · exact br_f (fun z => hK ((nI_eq (b := 1) (by omega) (by decide)).mp z)) (go 1 (Or.inr ⟨by decide, hK⟩))
theorem yv_loop {post : Int64 → Prop} (hj : j < 12) (R : it_R kd pl wd tm dg dc ss pc ln sn sd j K A W T D B S L) (hF : F + W ≤ 96) (ok : st_ok st)
    (h : post (ar_l (vl_v st K F W S))) : ∀ (d k : Nat) (x5 : Int64) (x7 : Int32) (x8 : Int32), S + k + d = W → x7 = rd_b (vl_s st K F (S + k) S) → x5 = ar_l ((vs_f K st (F + S) k : Nat) : Int) → x8 = nI (S + k) →
    wY_valueAt_23 post (nI j) (nI F) (nI W) cn fp ck pf hr sp ix sc ye sz yj st kd pl ln dc tm sn sd op ox oy oz sh ch oth lw hg le bk fm vy (d + 1) x5 x7 x8
  | 0, k, x5, x7, x8, hd, h7, h5, h8 => by
    subst h7 h5 h8
    obtain ⟨-, ⟨k1, k2, k3, k4, k5, k6, k7, k8, k9, k10, k11⟩, -⟩ := R
    have ek : S + k = W := by omega
    have ek2 : k = W - S := by omega
    refine br_t (nI_le (by omega) (by omega)) ?_
    unfold vl_v vl_m at h
    rw [← ek2] at h
    rw [ek]
    cases hb : vl_s st K F W S with
    | false =>
      rw [hb] at h
      exact br_t rfl h
    | true =>
      rw [hb] at h
      exact br_f (by decide) (by rw [ar_neg]; exact h)
  | d + 1, k, x5, x7, x8, hd, h7, h5, h8 => by
    subst h7 h5 h8
    have R0 := R
    obtain ⟨⟨r1, -⟩, ⟨k1, k2, k3, k4, k5, k6, k7, k8, k9, k10, k11⟩, q1, q2, -⟩ := R0
    have v : vp_in (nI j) 12 := vp_in_nI hj (by decide)
    have hvl : vs_f K st (F + S) k < 1000000000 := vs_lt st _ _ (fun z => by have := (q1 z).2.1; omega)
    refine br_f (nI_ge (by omega) (by omega)) ?_
    rw [nI_add, nI_clamp (show F + (S + k) < 2 ^ 31 by omega)]
    refine ⟨vp_in_nI (by omega) (by decide), nm_e (yi_sign hj R ?_)⟩
    have eA : F + S + k = F + (S + k) := by omega
    have go : wY_valueAt_58 post (wY_valueAt_23 post (nI j) (nI F) (nI W) cn fp ck pf hr sp ix sc ye sz yj st kd pl ln dc tm sn sd op ox oy oz sh ch oth lw hg le bk fm vy (d + 1)) (nI j) (nI F) (nI W) (ar_l ((vs_f K st (F + S) k : Nat) : Int)) (rd_b (vl_s st K F (S + k) S)) (nI (S + k)) (st (F + (S + k))) cn fp ck pf hr sp ix sc ye sz yj st kd pl ln dc tm sn sd op ox oy oz sh ch oth lw hg le bk fm vy := by
      have key : ∀ x5' : Int64, x5' = ar_l ((vs_f K st (F + S) (k + 1) : Nat) : Int) → wY_valueAt_115 post (wY_valueAt_23 post (nI j) (nI F) (nI W) cn fp ck pf hr sp ix sc ye sz yj st kd pl ln dc tm sn sd op ox oy oz sh ch oth lw hg le bk fm vy (d + 1)) (nI j) (nI F) (nI W) x5' (rd_b (vl_s st K F (S + k) S)) (nI (S + k)) (st (F + (S + k))) 0 cn fp ck pf hr sp ix sc ye sz yj st kd pl ln dc tm sn sd op ox oy oz sh ch oth lw hg le bk fm vy := by
        intro x5' e5
        have IH : ∀ x7' : Int32, x7' = rd_b (vl_s st K F (S + (k + 1)) S) → wY_valueAt_23 post (nI j) (nI F) (nI W) cn fp ck pf hr sp ix sc ye sz yj st kd pl ln dc tm sn sd op ox oy oz sh ch oth lw hg le bk fm vy (d + 1) x5' x7' (nI (S + k) + 1) := fun x7' e7 =>
          yv_loop hj R hF ok h d (k + 1) x5' x7' _ (by omega) e7 e5 (nI_1 _)
        have em : vs_m st F (S + (k + 1)) = (decide (st (F + (S + k)) = 11) || vs_m st F (S + k)) := rfl
        refine br_c (fun c => br_t rfl ⟨v, ?_⟩) (fun c => nm_e (IH _ ?_))
        · rw [nI_clamp (show j < 2 ^ 31 by omega), r1]
          by_cases h3 : K = 3
          · subst h3
            refine br_t rfl (nm_e (IH _ ?_))
            unfold vl_s
            rw [em, c, decide_eq_true (rfl : (11 : Int32) = 11), Bool.true_or, decide_eq_true (rfl : 3 = 3), Bool.and_true, Bool.or_true]
            rfl
          · refine br_f (fun z => h3 ((nI_eq (b := 3) (by omega) (by decide)).mp z)) (nm_e (IH _ ?_))
            unfold vl_s
            rw [show decide (K = 3) = false from decide_eq_false h3, Bool.false_and, Bool.false_and]
        · unfold vl_s
          rw [em, show decide (st (F + (S + k)) = 11) = false from decide_eq_false c, Bool.false_or]
      have es : vs_f K st (F + S) (k + 1) = if st (F + (S + k)) ≤ 9 then (vs_f K st (F + S) k * 10 + (st (F + (S + k))).toNatClampNeg) % 1000000000 else if K = 1 then vs_f K st (F + S) k * 10 else vs_f K st (F + S) k := by
        rw [← eA]
        rfl
      refine br_t rfl ?_
      by_cases hc : st (F + (S + k)) ≤ 9
      · rw [if_pos hc] at es
        refine br_f (fun z => ?_) ⟨by decide, nm_e (key _ ?_)⟩
        · exact absurd (Int32.le_trans z hc) (by decide)
        · rw [es]
          exact vs_stp hvl (ok _)
      · rw [if_neg hc] at es
        refine br_t ?_ (br_t rfl ⟨v, ?_⟩)
        · obtain ⟨q, hq, e⟩ := nI_of (ok (F + (S + k)))
          rw [e] at hc ⊢
          have : ¬ q ≤ 9 := fun z => hc (nI_le (b := 9) z (by decide))
          exact nI_le (a := 10) (by omega) hq
        · rw [nI_clamp (show j < 2 ^ 31 by omega), r1]
          by_cases hK : K = 1
          · rw [if_pos hK] at es
            subst hK
            refine br_t rfl (nm_e (key _ ?_))
            rw [es]
            exact vs_x10 _
          · rw [if_neg hK] at es
            refine br_f (fun z => hK ((nI_eq (b := 1) (by omega) (by decide)).mp z)) (key _ ?_)
            rw [es]
    by_cases h0 : S = 0
    · subst h0
      exact br_t rfl go
    · refine br_f (nI_ne0 (by omega) (by omega)) (br_f (nI_ne0 (by omega) (by omega)) go)
theorem yv_value {post : Int64 → Prop} (hj : j < 12) (R : it_R kd pl wd tm dg dc ss pc ln sn sd j K A W T D B S L) (he : 1 ≤ e) (he2 : e ≤ T) (ok : st_ok st) (h : post (ar_l (vl_v st K (A + (e - 1) * W) W S))) : wpY_valueAt post (cn, fp, ck, pf, hr, sp, ix, sc, ye, sz, yj, st, kd, pl, ln, dc, tm, sn, sd, op, ox, oy, oz, sh, ch, oth, lw, hg, le, bk, fm, vy) (nI j) (nI e) := by
  have R0 := R
  obtain ⟨⟨r1, -⟩, ⟨k1, k2, k3, k4, k5, k6, k7, k8, k9, k10, k11⟩, q1, q2, -⟩ := R0
  have hF : A + (e - 1) * W + W ≤ 96 := it_F k8 he he2
  unfold wpY_valueAt
  refine yi_spot hj R he ?_
  refine yi_width hj R ?_
  generalize A + (e - 1) * W = F at *
  by_cases h0 : S = 0
  · subst h0
    refine ⟨W + 1, yv_loop hj R hF ok h W 0 _ _ _ (by omega) ?_ rfl rfl⟩
    unfold vl_s
    rw [show vs_m st F (0 + 0) = false from rfl, Bool.and_false, Bool.or_false]
    rfl
  · have h1 : S = 1 := by omega
    subst h1
    have hK : K = 1 := Classical.byContradiction fun z => h0 (q2 z)
    subst hK
    obtain ⟨d, hd⟩ : ∃ d, W = 1 + d := ⟨W - 1, by omega⟩
    refine ⟨d + 1 + 1, ?_⟩
    refine br_f (nI_ge (a := 0) (by omega) (by omega)) ?_
    have hz : (nI F + 0) = nI F := Int32.add_zero _
    rw [hz, nI_clamp (show F < 2 ^ 31 by omega)]
    refine ⟨vp_in_nI (by omega) (by decide), nm_e (yi_sign hj R (br_f (nI_ne0 (by omega) (by omega)) (br_t rfl (br_f (by decide) (br_f (by decide) ?_)))))⟩
    have IH : ∀ x7' : Int32, x7' = rd_b (vl_s st 1 F (1 + 0) 1) → wY_valueAt_23 post (nI j) (nI F) (nI W) cn fp ck pf hr sp ix sc ye sz yj st kd pl ln dc tm sn sd op ox oy oz sh ch oth lw hg le bk fm vy (d + 1) 0 x7' (0 + 1) := fun x7' e7 =>
      yv_loop hj R hF ok h d 0 0 x7' _ (by omega) e7 rfl rfl
    refine br_c (fun c => br_f (by decide) (nm_e (IH _ ?_))) (fun c => nm_e (IH _ ?_))
    · unfold vl_s
      rw [c]
      rfl
    · unfold vl_s
      rw [show decide (st F = 11) = false from decide_eq_false c]
      rfl
end
end
section
/-! store: the row of digits, a number's places, the sign -/
theorem ar_dn {q : Nat} (h : q < 9223372036854775808) : ar_l (q : Int) / 10 = ar_l ((q / 10 : Nat) : Int) := ar_d10 false h
theorem sg_up0 (st : Nat → Int32) (hi : Nat) (f : Nat → Int32) : upd (sg_put st 0 0 hi f) hi (f hi) = sg_put st 0 0 (hi + 1) f := by
  have := sg_up st 0 0 hi f (Nat.zero_le _)
  rwa [Nat.zero_add] at this
theorem sg_dn0 (st : Nat → Int32) (lo hi : Nat) (f : Nat → Int32) (h : lo < hi) : upd (sg_put st 0 (lo + 1) hi f) lo (f lo) = sg_put st 0 lo hi f := by
  have := sg_dn st 0 lo hi f h
  rwa [Nat.zero_add] at this
def sr_f (M W : Nat) : Nat → Int32 := fun i => nI (M / 10 ^ (W - 1 - i) % 10)
def sr_x (st : Nat → Int32) (F S W : Nat) (s : Bool) (M : Nat) : Nat → Int32 :=
  if S = 0 then sg_put st F S W (sr_f M W) else upd (sg_put st F S W (sr_f M W)) F (if s = true ∧ 0 < M then 11 else 12)
theorem sr_m1 {S : Nat} (h : S ≤ 1) : nI S - 1 < nI S := by
  rcases (show S = 0 ∨ S = 1 by omega) with rfl | rfl <;> decide
theorem sr_add (a : Int32) : a + (-1) = a - 1 := (Int32.sub_eq_add_neg a 1).symm
/-! below: does a digit that is not zero stand under a minus -/
def bl_f (s : Bool) (g : Nat → Nat) : Nat → Bool
  | 0 => false
  | i + 1 => bl_f s g i || (s && decide (g i ≠ 0))
theorem bl_iff (s : Bool) (g : Nat → Nat) : ∀ n, bl_f s g n = true ↔ (s = true ∧ ∃ i, i < n ∧ g i ≠ 0)
  | 0 => ⟨fun z => absurd (show false = true from z) (by decide), fun ⟨_, i, hi, _⟩ => absurd hi (by omega)⟩
  | n + 1 => by
    show (bl_f s g n || (s && decide (g n ≠ 0))) = true ↔ _
    rw [Bool.or_eq_true, bl_iff s g n, Bool.and_eq_true, decide_eq_true_eq]
    constructor
    · rintro (⟨a, i, hi, z⟩ | ⟨a, z⟩)
      · exact ⟨a, i, by omega, z⟩
      · exact ⟨a, n, by omega, z⟩
    · rintro ⟨a, i, hi, z⟩
      by_cases e : i = n
      · subst e
        exact Or.inr ⟨a, z⟩
      · exact Or.inl ⟨a, i, by omega, z⟩
theorem bl_eq (s : Bool) (m has wants D : Nat) : bl_f s (fun i => dg_d m has wants (D - 1 - i)) D = true ↔ (s = true ∧ 0 < dg_N m has wants % 10 ^ D) := by
  rw [bl_iff]
  constructor
  · rintro ⟨a, i, hi, z⟩
    exact ⟨a, Nat.pos_of_ne_zero ((dg_nz m has wants D).mpr ⟨D - 1 - i, by omega, z⟩)⟩
  · rintro ⟨a, z⟩
    obtain ⟨k, hk, q⟩ := (dg_nz m has wants D).mp (by omega)
    refine ⟨a, D - 1 - k, by omega, ?_⟩
    show dg_d m has wants (D - 1 - (D - 1 - k)) ≠ 0
    rw [show D - 1 - (D - 1 - k) = k from by omega]
    exact q
theorem rd_o0 (b : Bool) : rd_b b ||| 0 = rd_b b := by cases b <;> decide
theorem rd_o1 (b : Bool) : rd_b b ||| 1 = 1 := by cases b <;> decide
section
variable {cn ck fp pg ob hr sp ix sz pf sc ye yj : Int32}
variable {st kd pl wd tm dg dc ss pc op ox oy oz ps jp oi pa pt sh lc rc dr ln sn sd ch oth lw hg le bk fm vy : Nat → Int32}
variable {K A W T D B S L e j F M m has : Nat} {s : Bool}
theorem xs_numL {post : SX → Prop} (hS : S ≤ 1) (hW : W = L + S) (hF : F + W ≤ 96) (hM : M < 9000000000000000000) (h : post (cn, ck, fp, pg, ob, hr, sp, ix, sz, pf, sc, sr_x st F S W s M, kd, pl, wd, tm, dg, dc, ss, pc, op, ox, oy, oz, ps, jp, oi, pa, pt, sh, lc, rc, dr)) :
    ∀ (c : Nat) (x5 : Int64) (x8 : Int32) (q : Nat → Int32), c ≤ L → x5 = ar_l ((M / 10 ^ (L - c) : Nat) : Int) → x8 = nI (S + c) - 1 → q = sg_put st F (S + c) W (sr_f M W) →
    wX_putNumber_32 post (nI F) (ar_l (ar_s s M)) (nI S) cn ck fp pg ob hr sp ix sz pf sc (c + 1) x5 x8 q kd pl wd tm dg dc ss pc op ox oy oz ps jp oi pa pt sh lc rc dr
  | 0, x5, x8, q, hc, h5, h8, hq => by
    subst h5 h8 hq
    refine br_t (sr_m1 hS) ?_
    unfold sr_x at h
    by_cases h0 : S = 0
    · subst h0
      rw [if_pos rfl] at h
      exact br_t (nI_le (b := 0) (by omega) (by decide)) h
    · have h1 : S = 1 := by omega
      subst h1
      rw [if_neg h0] at h
      refine br_f (nI_ge (a := 0) (by omega) (by omega)) ?_
      have v : vp_in (nI F) 96 := vp_in_nI (by omega) (by decide)
      rw [ar_le0 (ar_sB (by omega)), nI_clamp (show F < 2 ^ 31 by omega)]
      refine br_c (fun z => ⟨v, nm_e ?_⟩) (fun z => ⟨v, nm_e ?_⟩)
      · rw [if_neg (fun w => absurd ((ar_neg0 s M).mpr w) (by omega))] at h
        exact h
      · rw [if_pos ((ar_neg0 s M).mp (by omega))] at h
        exact h
  | c + 1, x5, x8, q, hc, h5, h8, hq => by
    subst h5 h8 hq
    have e8 : nI (S + (c + 1)) - 1 = nI (S + c) := nI_pred (S + c)
    have hq : M / 10 ^ (L - (c + 1)) ≤ M := Nat.div_le_self _ _
    rw [e8]
    refine br_f (nI_nlt (by omega) (by omega)) ⟨by decide, ?_⟩
    rw [nI_add, nI_clamp (show F + (S + c) < 2 ^ 31 by omega), ar_i10 (by omega)]
    refine ⟨vp_in_nI (by omega) (by decide), nm_e ⟨by decide, nm_e (nm_e (xs_numL hS hW hF hM h c _ _ _ (by omega) ?_ (sr_add _) ?_))⟩⟩
    · rw [ar_dn (by omega), Nat.div_div_eq_div_mul, ← Nat.pow_succ, show (L - (c + 1)).succ = L - c from by omega]
    · have := sg_dn st F (S + c) W (sr_f M W) (by omega)
      rw [← this]
      show upd _ _ _ = upd _ _ (nI (M / 10 ^ (W - 1 - (S + c)) % 10))
      rw [show W - 1 - (S + c) = L - (c + 1) from by omega]
      rfl
theorem xs_num {post : SX → Prop} (hj : j < 12) (R : it_R kd pl wd tm dg dc ss pc ln sn sd j K A W T D B S L) (hF : F + W ≤ 96) (hM : M < 10 ^ L) (hL : L ≤ 9) (h : post (cn, ck, fp, pg, ob, hr, sp, ix, sz, pf, sc, sr_x st F S W s M, kd, pl, wd, tm, dg, dc, ss, pc, op, ox, oy, oz, ps, jp, oi, pa, pt, sh, lc, rc, dr)) : wpX_putNumber post (cn, ck, fp, pg, ob, hr, sp, ix, sz, pf, sc, st, kd, pl, wd, tm, dg, dc, ss, pc, op, ox, oy, oz, ps, jp, oi, pa, pt, sh, lc, rc, dr) (nI j) (nI F) (ar_l (ar_s s M)) := by
  obtain ⟨⟨r1, r2, r3, r4, r5, r6, r7, r8⟩, ⟨k1, k2, k3, k4, k5, k6, k7, k8, k9, k10, k11⟩, q1, q2, -⟩ := R
  have v : vp_in (nI j) 12 := vp_in_nI hj (by decide)
  have hM2 : M < 1000000000 := Nat.lt_of_lt_of_le hM (Nat.pow_le_pow_right (n := 10) (by decide) hL)
  refine ar_ab (by omega) (fun z => wX_putNumber_12 post (nI j) (nI F) (ar_l (ar_s s M)) z cn ck fp pg ob hr sp ix sz pf sc st kd pl wd tm dg dc ss pc op ox oy oz ps jp oi pa pt sh lc rc dr) ⟨v, ?_⟩
  rw [nI_clamp (by omega), r7, r3]
  refine nm_e ⟨v, nm_e ⟨L + 1, xs_numL k9 k7 hF (by omega) h L _ _ _ (Nat.le_refl _) ?_ (by rw [k7, Nat.add_comm]) ?_⟩⟩
  · rw [Nat.sub_self, Nat.pow_zero, Nat.div_one]
  · rw [k7, Nat.add_comm S L, sg_0]
end
end
section
/-! store of the reference: the digits into others, then a number's places -/
section
variable {cn ck fp pg ob hr sp ix sz pf sc ye yj : Int32}
variable {st kd pl wd tm dg dc ss pc op ox oy oz ps jp oi pa pt sh lc rc dr ln sn sd ch oth lw hg le bk fm vy : Nat → Int32}
variable {K A W T D B S L e j F M m has : Nat} {s : Bool}
def ys_g (m has B D : Nat) : Nat → Nat := fun i => dg_d m has B (D - 1 - i)
def ys_o (m has B D : Nat) : Nat → Int32 := fun i => nI (dg_d m has B (D - 1 - i))
/-- the loop that fills others; what comes behind it is asked as wY_store_92 at its end -/
theorem ys_digL {post : SY → Prop} {p : Int32} (hj : j < 12) (hB : dc j = nI B) (hB9 : B ≤ 9) (hD : D ≤ 9) (hm : m < 9000000000000000000) (hh : has ≤ 9) (hs : s = true → 0 < m)
    (h : ∀ n, wY_store_92 post (nI j) (ar_l (ar_s s m)) (nI has) (nI D) p cn fp ck pf hr sp ix sc ye sz yj (n + 1) (rd_b (bl_f s (ys_g m has B D) D)) (nI D) st kd pl ln dc tm sn sd op ox oy oz sh ch (sg_put oth 0 0 D (ys_o m has B D)) lw hg le bk fm vy) :
    ∀ (d i : Nat) (x9 x10 : Int32) (q : Nat → Int32), i + d = D → x9 = rd_b (bl_f s (ys_g m has B D) i) → x10 = nI i → q = sg_put oth 0 0 i (ys_o m has B D) →
    wY_store_92 post (nI j) (ar_l (ar_s s m)) (nI has) (nI D) p cn fp ck pf hr sp ix sc ye sz yj (d + 1) x9 x10 st kd pl ln dc tm sn sd op ox oy oz sh ch q lw hg le bk fm vy
  | 0, i, x9, x10, q, hd, h9, h10, hq => by
    subst h9 h10 hq
    have e1 : i = D := by omega
    subst e1
    exact h 0
  | d + 1, i, x9, x10, q, hd, h9, h10, hq => by
    subst h9 h10 hq
    have v : vp_in (nI j) 12 := vp_in_nI hj (by decide)
    have ek : (nI D - 1) - nI i = nI (D - 1 - i) := by
      obtain ⟨c, rfl⟩ : ∃ c, D = c + 1 := ⟨D - 1, by omega⟩
      rw [nI_pred, pk_sub (by omega), Nat.add_sub_cancel]
    refine br_f (nI_ge (by omega) (by omega)) ⟨v, ?_⟩
    rw [nI_clamp (show j < 2 ^ 31 by omega), hB, ek]
    refine yw_digit hm hh hB9 (by omega) ⟨vp_in_nI (by omega) (by decide), ?_⟩
    rw [nI_clamp (show i < 2 ^ 31 by omega)]
    have eq1 : upd (sg_put oth 0 0 i (ys_o m has B D)) i (nI (dg_d m has B (D - 1 - i))) = sg_put oth 0 0 (i + 1) (ys_o m has B D) := sg_up0 oth i (ys_o m has B D)
    refine nm_r eq1 ?_
    have IH : ∀ x9' : Int32, x9' = rd_b (bl_f s (ys_g m has B D) (i + 1)) → wY_store_92 post (nI j) (ar_l (ar_s s m)) (nI has) (nI D) p cn fp ck pf hr sp ix sc ye sz yj (d + 1) x9' (nI i + 1) st kd pl ln dc tm sn sd op ox oy oz sh ch (sg_put oth 0 0 (i + 1) (ys_o m has B D)) lw hg le bk fm vy := fun x9' e9 =>
      ys_digL hj hB hB9 hD hm hh hs h d (i + 1) x9' _ _ (by omega) e9 (nI_1 i) rfl
    have eb : bl_f s (ys_g m has B D) (i + 1) = (bl_f s (ys_g m has B D) i || (s && decide (dg_d m has B (D - 1 - i) ≠ 0))) := rfl
    have ev : sg_put oth 0 0 (i + 1) (ys_o m has B D) i = nI (dg_d m has B (D - 1 - i)) := sg_in0 oth 0 (i + 1) (ys_o m has B D) (by omega) (by omega)
    have hlt := dg_lt m has B (D - 1 - i)
    rw [ar_pos (by omega) hs]
    refine br_c (fun z => nm_e (nm_e (IH _ ?_))) (fun z => ⟨vp_in_nI (by omega) (by decide), ?_⟩)
    · rw [rd_o0, eb, z, Bool.false_and, Bool.or_false]
    · have hs1 : s = true := by
        cases s with
        | false => exact absurd rfl z
        | true => rfl
      rw [ev]
      refine br_c (fun w => nm_e (nm_e (IH _ ?_))) (fun w => nm_e (nm_e (IH _ ?_)))
      · have w0 : dg_d m has B (D - 1 - i) = 0 := (nI_eq (b := 0) (by omega) (by decide)).mp w
        rw [rd_o0, eb, w0, decide_eq_false (by decide), Bool.and_false, Bool.or_false]
      · have w0 : dg_d m has B (D - 1 - i) ≠ 0 := fun y => w (by rw [y]; rfl)
        rw [rd_o1, eb, hs1, decide_eq_true w0, Bool.true_and, Bool.or_true]
        rfl
theorem ys_putL {post : SY → Prop} (hj : j < 12) (hsd : sd j = nI S) (hS : S ≤ 1) (hD : D ≤ 9) (hF : F + S + D ≤ 96) {f : Nat → Int32} (ho : ∀ i, i < D → oth i = f i) (h : post (cn, fp, ck, pf, hr, sp, ix, sc, ye, sz, yj, sg_put st (F + S) 0 D f, kd, pl, ln, dc, tm, sn, sd, op, ox, oy, oz, sh, ch, oth, lw, hg, le, bk, fm, vy)) :
    ∀ (d i : Nat) (x10 : Int32) (q : Nat → Int32), i + d = D → x10 = nI i → q = sg_put st (F + S) 0 i f →
    wY_store_210 post (nI j) (nI D) (nI F) cn fp ck pf hr sp ix sc ye sz yj (d + 1) x10 q kd pl ln dc tm sn sd op ox oy oz sh ch oth lw hg le bk fm vy
  | 0, i, x10, q, hd, h10, hq => by
    subst h10 hq
    have e1 : i = D := by omega
    subst e1
    exact br_t (nI_le (Nat.le_refl _) (by omega)) h
  | d + 1, i, x10, q, hd, h10, hq => by
    subst h10 hq
    have v : vp_in (nI j) 12 := vp_in_nI hj (by decide)
    refine br_f (nI_ge (by omega) (by omega)) ⟨v, ?_⟩
    rw [nI_clamp (show j < 2 ^ 31 by omega), hsd]
    have go : wY_store_237 post (wY_store_210 post (nI j) (nI D) (nI F) cn fp ck pf hr sp ix sc ye sz yj (d + 1)) (nI j) (nI D) (nI F) (nI i) (nI S) (nI F) cn fp ck pf hr sp ix sc ye sz yj (sg_put st (F + S) 0 i f) kd pl ln dc tm sn sd op ox oy oz sh ch oth lw hg le bk fm vy := by
      refine ⟨vp_in_nI (by omega) (by decide), ?_⟩
      rw [nI_add, nI_add, nI_clamp (show F + S + i < 2 ^ 31 by omega), nI_clamp (show i < 2 ^ 31 by omega), ho i (by omega)]
      refine ⟨vp_in_nI (by omega) (by decide), nm_r (sg_up st (F + S) 0 i f (by omega)) (nm_e ?_)⟩
      exact ys_putL hj hsd hS hD hF ho h d (i + 1) _ _ (by omega) (nI_1 i) rfl
    rcases (show S = 0 ∨ S = 1 by omega) with e0 | e0
    · rw [e0] at go ⊢
      exact br_t rfl go
    · rw [e0] at go ⊢
      exact br_f (by decide) go
/-- a number's storage as the reference writes it -/
def ys_x (st : Nat → Int32) (F S L : Nat) (b : Bool) (f : Nat → Int32) : Nat → Int32 :=
  if S = 0 then sg_put st (F + S) 0 L f else sg_put (upd st F (if b = true then 11 else 12)) (F + S) 0 L f
theorem ys_eq {st : Nat → Int32} {b : Bool} (hW : W = L + S) (hS : S ≤ 1) (hb : b = true ↔ (s = true ∧ 0 < M)) (hM : ∀ k, k < L → M / 10 ^ k % 10 = dg_d m has B k) : ys_x st F S L b (ys_o m has B L) = sr_x st F S W s M := by
  unfold ys_x sr_x
  have hf : ∀ i, i < L → ys_o m has B L i = sr_f M W (S + i) := by
    intro i hi
    unfold ys_o sr_f
    rw [show W - 1 - (S + i) = L - 1 - i from by omega, hM _ (by omega)]
  rcases (show S = 0 ∨ S = 1 by omega) with rfl | rfl
  · rw [if_pos rfl, if_pos rfl, hW]
    refine sg_cg _ _ _ _ fun i _ hi => ?_
    rw [hf i (by omega), Nat.zero_add, hW]
  · rw [if_neg (show ¬ (1 = 0) by decide), if_neg (show ¬ (1 = 0) by decide)]
    have e11 : (if b = true then (11 : Int32) else 12) = (if s = true ∧ 0 < M then 11 else 12) := by
      by_cases z : b = true
      · rw [if_pos z, if_pos (hb.mp z)]
      · rw [if_neg z, if_neg (fun w => z (hb.mpr w))]
    rw [e11]
    funext i
    unfold sg_put upd
    dsimp only
    by_cases c1 : i = F
    · rw [if_pos c1, if_neg (by omega), if_pos c1]
    · simp only [if_neg c1]
      by_cases c2 : F + 1 ≤ i ∧ i < F + W
      · rw [if_pos c2, if_pos (by omega), hf _ (by omega)]
        exact congrArg (sr_f M W) (by omega)
      · rw [if_neg c2, if_neg (by omega)]
theorem ys_num {post : SY → Prop} (hj : j < 12) (R : it_R kd pl wd tm dg dc ss pc ln sn sd j K A W T D B S L) (hK : K = 1) (he : 1 ≤ e) (he2 : e ≤ T) (hm : m < 9000000000000000000) (hh : has ≤ 9) (hs : s = true → 0 < m)
    (h : post (cn, fp, ck, pf, hr, sp, ix, sc, ye, sz, yj, ys_x st (A + (e - 1) * W) S L (bl_f s (ys_g m has B L) L) (ys_o m has B L), kd, pl, ln, dc, tm, sn, sd, op, ox, oy, oz, sh, ch, sg_put oth 0 0 L (ys_o m has B L), lw, hg, le, bk, fm, vy)) : wpY_store post (cn, fp, ck, pf, hr, sp, ix, sc, ye, sz, yj, st, kd, pl, ln, dc, tm, sn, sd, op, ox, oy, oz, sh, ch, oth, lw, hg, le, bk, fm, vy) (nI j) (nI e) (ar_l (ar_s s m)) (nI has) := by
  have R0 := R
  obtain ⟨⟨r1, r2, r3, r4, r5, r6, r7, r8⟩, ⟨k1, k2, k3, k4, k5, k6, k7, k8, k9, k10, k11⟩, q1, q2, -⟩ := R0
  subst hK
  obtain ⟨qa, qb, qc, qd⟩ := q1 rfl
  have hF : A + (e - 1) * W + W ≤ 96 := it_F k8 he he2
  have v : vp_in (nI j) 12 := vp_in_nI hj (by decide)
  unfold wpY_store
  refine yi_spot hj R he ?_
  generalize A + (e - 1) * W = F at *
  refine ⟨v, ?_⟩
  rw [nI_clamp (show j < 2 ^ 31 by omega), r1]
  refine br_f (by decide) ⟨1, br_t (by decide) ⟨v, ?_⟩⟩
  rw [nI_clamp (show j < 2 ^ 31 by omega), r1, r8]
  refine br_t rfl ⟨v, nm_e ⟨L + 1, ys_digL hj r6 (by omega) (by omega) hm hh hs (fun n => ?_) L 0 _ _ _ (by omega) rfl rfl (sg_0 _ _ _ _).symm⟩⟩
  refine br_t (nI_le (Nat.le_refl _) (by omega)) ⟨v, ?_⟩
  rw [nI_clamp (show j < 2 ^ 31 by omega), r1, qd]
  refine br_f (by decide) ⟨v, ?_⟩
  have ho : ∀ i, i < L → sg_put oth 0 0 L (ys_o m has B L) i = ys_o m has B L i := fun i hi => sg_in0 _ _ _ _ (by omega) hi
  unfold ys_x at h
  rcases (show S = 0 ∨ S = 1 by omega) with e0 | e0
  · subst e0
    rw [if_pos rfl] at h
    exact br_t rfl ⟨L + 1, ys_putL hj qd (by omega) qb (by omega) ho h L 0 _ _ (by omega) rfl (sg_0 _ _ _ _).symm⟩
  · subst e0
    rw [if_neg (by decide)] at h
    refine br_f (by decide) ?_
    rw [nI_clamp (show F < 2 ^ 31 by omega)]
    cases hb : bl_f s (ys_g m has B L) L with
    | false =>
      rw [hb, if_neg (by decide)] at h
      exact br_t rfl ⟨vp_in_nI (by omega) (by decide), nm_e ⟨L + 1, ys_putL hj qd (by omega) qb (by omega) ho h L 0 _ _ (by omega) rfl (sg_0 _ _ _ _).symm⟩⟩
    | true =>
      rw [hb, if_pos rfl] at h
      exact br_f (by decide) ⟨vp_in_nI (by omega) (by decide), nm_e ⟨L + 1, ys_putL hj qd (by omega) qb (by omega) ho h L 0 _ _ (by omega) rfl (sg_0 _ _ _ _).symm⟩⟩
end
end
section
/-! an edited item's characters: both sides in step, sign by sign -/
theorem xe_sign {post : Int32 → Prop} {P : Int32} {L i : Nat} (h : post (pi_s P L i)) : wpX_signAt post P (nI L) (nI i) := h
theorem xe_isT {post : Int32 → Prop} {x : Int32} (h1 : ¬ x < 1) (h3 : ¬ 3 < x) (h : post 1) : wpX_isDigitSign post x := br_f h1 (br_f h3 h)
theorem xe_isF {post : Int32 → Prop} {x : Int32} (h1 : ¬ x < 1) (h3 : 3 < x) (h : post 0) : wpX_isDigitSign post x := br_f h1 (br_t h3 h)
theorem ed_ix (j i : Nat) : (8 : Int32) * nI j + nI i = nI (8 * j + i) := by rw [show (8 : Int32) = nI 8 from rfl, pk_mul, nI_add]
theorem ed_ok {q : Nat → Int32} {k : Nat} {c : Int32} (h : st_ok q) (hc : ¬ c < 0) : st_ok (upd q k c) := by
  intro i
  unfold upd
  by_cases e : i = k
  · rw [if_pos e]; exact hc
  · rw [if_neg e]; exact h i
section
variable {cn ck fp pg ob hr sp ix sz pf sc ye yj : Int32}
variable {st kd pl wd tm dg dc ss pc op ox oy oz ps jp oi pa pt sh lc rc dr ln sn sd ch oth lw hg le bk fm vy : Nat → Int32}
variable {K A W T D B S L e j F M m has : Nat} {s a b : Bool}
theorem xe_digL {post : SX → Prop} {x3 : Int64} (hj : j < 12) (hw : wd j = nI W) (hD : D ≤ 8) (hM : M < 9000000000000000000)
    (h : ∃ n, wX_putEdited_78 post (nI j) (nI F) x3 (nI W) cn ck fp pg ob hr sp ix sz pf sc n 0 1 10 0 st kd pl wd tm dg dc ss pc op ox oy oz ps jp oi pa pt sh lc rc (sg_put dr 0 0 D (sr_f M D))) :
    ∀ (c : Nat) (x5 : Int64) (x7 : Int32) (q : Nat → Int32), c ≤ D → x5 = ar_l ((M / 10 ^ (D - c) : Nat) : Int) → x7 = nI c - 1 → q = sg_put dr 0 c D (sr_f M D) →
    wX_putEdited_24 post (nI j) (nI F) x3 cn ck fp pg ob hr sp ix sz pf sc (c + 1) x5 x7 st kd pl wd tm dg dc ss pc op ox oy oz ps jp oi pa pt sh lc rc q
  | 0, x5, x7, q, hc, h5, h7, hq => by
    subst h5 h7 hq
    refine br_t (by decide) ⟨vp_in_nI hj (by decide), ?_⟩
    rw [nI_clamp (by omega), hw]
    exact nm_e h
  | c + 1, x5, x7, q, hc, h5, h7, hq => by
    subst h5 h7 hq
    have hq : M / 10 ^ (D - (c + 1)) ≤ M := Nat.div_le_self _ _
    rw [nI_pred]
    refine br_f (nI_pos (by omega)) ⟨by decide, vp_in_nI (by omega) (by decide), ?_⟩
    rw [nI_clamp (show c < 2 ^ 31 by omega), ar_i10 (by omega)]
    refine nm_e ⟨by decide, nm_e (nm_e (xe_digL hj hw hD hM h c _ _ _ (by omega) ?_ (sr_add _) ?_))⟩
    · rw [ar_dn (by omega), Nat.div_div_eq_div_mul, ← Nat.pow_succ, show (D - (c + 1)).succ = D - c from by omega]
    · have := sg_dn0 dr c D (sr_f M D) (by omega)
      rw [← this]
      show upd _ _ _ = upd _ _ (nI (M / 10 ^ (D - 1 - c) % 10))
      rw [show D - 1 - c = D - (c + 1) from by omega]
theorem xe_239 {post : SX → Prop} {J : Int32 → Int32 → Int32 → Int32 → (Nat → Int32) → (Nat → Int32) → (Nat → Int32) → (Nat → Int32) → (Nat → Int32) → (Nat → Int32) → (Nat → Int32) → (Nat → Int32) → (Nat → Int32) → (Nat → Int32) → (Nat → Int32) → (Nat → Int32) → (Nat → Int32) → (Nat → Int32) → (Nat → Int32) → (Nat → Int32) → (Nat → Int32) → (Nat → Int32) → (Nat → Int32) → (Nat → Int32) → (Nat → Int32) → (Nat → Int32) → Prop} {x1 x7 x8 x9 x10 c : Int32} {x3 : Int64} {i : Nat} {q : Nat → Int32} (hi : F + i < 96)
    (h : J x8 x9 x10 (nI i + 1) (upd q (F + i) c) kd pl wd tm dg dc ss pc op ox oy oz ps jp oi pa pt sh lc rc dr) : wX_putEdited_239 post J x1 (nI F) x3 x7 x8 x9 x10 (nI i) c cn ck fp pg ob hr sp ix sz pf sc q kd pl wd tm dg dc ss pc op ox oy oz ps jp oi pa pt sh lc rc dr := by
  have e1 : nI F + nI i = nI (F + i) := nI_add _ _
  refine ⟨by rw [e1]; exact vp_in_nI hi (by decide), nm_r (by rw [e1, nI_clamp (by omega)]) (nm_e h)⟩
theorem ye_175 {post : SY → Prop} {J : Int32 → Int32 → Int32 → Int32 → (Nat → Int32) → (Nat → Int32) → (Nat → Int32) → (Nat → Int32) → (Nat → Int32) → (Nat → Int32) → (Nat → Int32) → (Nat → Int32) → (Nat → Int32) → (Nat → Int32) → (Nat → Int32) → (Nat → Int32) → (Nat → Int32) → (Nat → Int32) → (Nat → Int32) → (Nat → Int32) → (Nat → Int32) → (Nat → Int32) → (Nat → Int32) → (Nat → Int32) → (Nat → Int32) → Prop} {x1 x3 x4 x5 x6 c : Int32} {i : Nat} {q : Nat → Int32} (hi : F + i < 96)
    (h : J x4 x5 x6 (nI i + 1) (upd q (F + i) c) kd pl ln dc tm sn sd op ox oy oz sh ch oth lw hg le bk fm vy) : wY_edit_175 post J x1 (nI F) x3 x4 x5 x6 (nI i) c cn fp ck pf hr sp ix sc ye sz yj q kd pl ln dc tm sn sd op ox oy oz sh ch oth lw hg le bk fm vy := by
  have e1 : nI F + nI i = nI (F + i) := nI_add _ _
  refine ⟨by rw [e1]; exact vp_in_nI hi (by decide), nm_r (by rw [e1, nI_clamp (by omega)]) (nm_e h)⟩
theorem ed_loop {x3 : Int64} (hj : j < 12) (hw : wd j = nI L) (hl : ln j = nI L) (hL : L ≤ 8) (hD : pi_c (pc j) L L = D) (hD8 : D ≤ 8) (hsn : ∀ k, k < L → sn (8 * j + k) = pi_s (pc j) L k ∧ pi_s (pc j) L k ≠ 0) (hF : F + L ≤ 96)
    (hdr : ∀ i, i < D → dr i = oth i ∧ ¬ dr i < 0) (hx3 : 0 ≤ x3 ↔ b = false) : ∀ (d i : Nat) (q : Nat → Int32) (a : Bool) (fX fY : Int32), i + d = L → st_ok q → (a = true → fX = fY ∧ ¬ fX < 0) →
    ∃ st', st_ok st' ∧ (∀ post, post (cn, ck, fp, pg, ob, hr, sp, ix, sz, pf, sc, st', kd, pl, wd, tm, dg, dc, ss, pc, op, ox, oy, oz, ps, jp, oi, pa, pt, sh, lc, rc, dr) → wX_putEdited_78 post (nI j) (nI F) x3 (nI L) cn ck fp pg ob hr sp ix sz pf sc (d + 1) (nI (pi_c (pc j) L i)) (rd_b a) fX (nI i) q kd pl wd tm dg dc ss pc op ox oy oz ps jp oi pa pt sh lc rc dr) ∧
      (∀ post, post (cn, fp, ck, pf, hr, sp, ix, sc, ye, sz, yj, st', kd, pl, ln, dc, tm, sn, sd, op, ox, oy, oz, sh, ch, oth, lw, hg, le, bk, fm, vy) → wY_edit_13 post (nI j) (nI F) (rd_b b) cn fp ck pf hr sp ix sc ye sz yj (d + 1) (nI (pi_c (pc j) L i)) fY (rd_b a) (nI i) q kd pl ln dc tm sn sd op ox oy oz sh ch oth lw hg le bk fm vy)
  | 0, i, q, a, fX, fY, hd, ok, hf => by
    have e1 : i = L := by omega
    subst e1
    refine ⟨q, ok, fun post hp => br_t (nI_le (Nat.le_refl _) (by omega)) hp, fun post hp => ⟨vp_in_nI hj (by decide), ?_⟩⟩
    rw [nI_clamp (by omega), hl]
    exact br_t (nI_le (Nat.le_refl _) (by omega)) hp
  | d + 1, i, q, a, fX, fY, hd, ok, hf => by
    have v : vp_in (nI j) 12 := vp_in_nI hj (by decide)
    have cj : (nI j).toNatClampNeg = j := nI_clamp (by omega)
    obtain ⟨hs1, hs0⟩ := hsn i (by omega)
    have hcn0 : (nI (pi_c (pc j) L i)).toNatClampNeg = pi_c (pc j) L i := nI_clamp (by have := pi_le (pc j) L i; omega)
    have hi96 : F + i < 96 := by omega
    obtain ⟨σ, hσ8, hσ⟩ := pi_v (pc j) L i
    have IH : ∀ (n' : Nat) (c : Int32) (a' : Bool) (fX' fY' : Int32), n' = pi_c (pc j) L (i + 1) → ¬ c < 0 → (a' = true → fX' = fY' ∧ ¬ fX' < 0) → ∃ st', st_ok st' ∧ (∀ post, post (cn, ck, fp, pg, ob, hr, sp, ix, sz, pf, sc, st', kd, pl, wd, tm, dg, dc, ss, pc, op, ox, oy, oz, ps, jp, oi, pa, pt, sh, lc, rc, dr) → wX_putEdited_78 post (nI j) (nI F) x3 (nI L) cn ck fp pg ob hr sp ix sz pf sc (d + 1) (nI n') (rd_b a') fX' (nI i + 1) (upd q (F + i) c) kd pl wd tm dg dc ss pc op ox oy oz ps jp oi pa pt sh lc rc dr) ∧ (∀ post, post (cn, fp, ck, pf, hr, sp, ix, sc, ye, sz, yj, st', kd, pl, ln, dc, tm, sn, sd, op, ox, oy, oz, sh, ch, oth, lw, hg, le, bk, fm, vy) → wY_edit_13 post (nI j) (nI F) (rd_b b) cn fp ck pf hr sp ix sc ye sz yj (d + 1) (nI n') fY' (rd_b a') (nI i + 1) (upd q (F + i) c) kd pl ln dc tm sn sd op ox oy oz sh ch oth lw hg le bk fm vy) := by
      intro n' c a' fX' fY' hn hc hf'
      subst hn
      rw [nI_1]
      exact ed_loop hj hw hl hL hD hD8 hsn hF hdr hx3 d (i + 1) (upd q (F + i) c) a' fX' fY' (by omega) (ed_ok ok hc) hf'
    rcases (show σ = 0 ∨ σ = 1 ∨ σ = 2 ∨ σ = 3 ∨ σ = 4 ∨ σ = 5 ∨ σ = 6 ∨ σ = 7 by omega) with e | e | e | e | e | e | e | e <;> subst e
    · exact absurd hσ hs0
    · have hlt : pi_s (pc j) L i < 4 := by rw [hσ]; decide
      have hn : pi_c (pc j) L i + 1 = pi_c (pc j) L (i + 1) := (pi_cs hlt).symm
      have hnD : pi_c (pc j) L i < D := by have := pi_mono (pc j) L (show i + 1 ≤ L by omega); omega
      obtain ⟨hdo, hd0⟩ := hdr _ hnD
      have eX : dr (nI (pi_c (pc j) L i)).toNatClampNeg = dr (pi_c (pc j) L i) := by rw [hcn0]
      have vX : vp_in (nI (pi_c (pc j) L i)) 8 := vp_in_nI (by omega) (by decide)
      have vY : vp_in (nI (pi_c (pc j) L i)) 32 := vp_in_nI (by omega) (by decide)
      have eN : nI (pi_c (pc j) L i) + 1 = nI (pi_c (pc j) L i + 1) := nI_1 _
      cases a with
      | false =>
        obtain ⟨st', ok', hX, hY⟩ := IH (pi_c (pc j) L i + 1) (dr (pi_c (pc j) L i)) false 10 (dr (pi_c (pc j) L i)) hn hd0 (fun z => absurd z (by decide))
        refine ⟨st', ok', fun post hp => br_f (nI_ge (by omega) (by omega)) ⟨v, ?_⟩, fun post hp => ⟨v, ?_⟩⟩
        · rw [cj]
          refine xe_sign ?_
          rw [hσ]
          exact xe_isT (by decide) (by decide) (br_f (by decide) ⟨vX, nm_r eX (nm_r eN (br_t rfl (br_f (by decide) (br_t rfl (xe_239 hi96 (hX post hp))))))⟩)
        · rw [cj, hl]
          refine br_f (nI_ge (by omega) (by omega)) ?_
          rw [ed_ix, nI_clamp (show 8 * j + i < 2 ^ 31 by omega), hs1, hσ]
          refine ⟨vp_in_nI (by omega) (by decide), nm_e ?_⟩
          have k : ∀ z0 : Int32, wY_edit_102 post (wY_edit_13 post (nI j) (nI F) (rd_b b) cn fp ck pf hr sp ix sc ye sz yj (d + 1)) (nI j) (nI F) (rd_b b) (nI (pi_c (pc j) L i)) fY (rd_b false) (nI i) 1 z0 cn fp ck pf hr sp ix sc ye sz yj q kd pl ln dc tm sn sd op ox oy oz sh ch oth lw hg le bk fm vy := by
            intro z0
            refine br_f (by decide) ?_
            have u : wY_edit_135 post (wY_edit_13 post (nI j) (nI F) (rd_b b) cn fp ck pf hr sp ix sc ye sz yj (d + 1)) (nI j) (nI F) (rd_b b) (nI (pi_c (pc j) L i)) (nI i) 1 cn fp ck pf hr sp ix sc ye sz yj q kd pl ln dc tm sn sd op ox oy oz sh ch oth lw hg le bk fm vy := by
              refine br_t rfl ⟨vY, ?_⟩
              rw [hcn0, ← hdo]
              exact nm_r eN (ye_175 hi96 (hY post hp))
            exact br_t rfl u
          exact br_f (by decide) (br_f (by decide) (br_f (by decide) (br_c (fun _ => k _) (fun _ => k _))))
      | true =>
        by_cases ht : dr (pi_c (pc j) L i) = 0
        · obtain ⟨st', ok', hX, hY⟩ := IH (pi_c (pc j) L i + 1) (dr (pi_c (pc j) L i)) false 10 (dr (pi_c (pc j) L i)) hn hd0 (fun z => absurd z (by decide))
          refine ⟨st', ok', fun post hp => br_f (nI_ge (by omega) (by omega)) ⟨v, ?_⟩, fun post hp => ⟨v, ?_⟩⟩
          · rw [cj]
            refine xe_sign ?_
            rw [hσ]
            exact xe_isT (by decide) (by decide) (br_f (by decide) ⟨vX, nm_r eX (nm_r eN (br_f (by decide) (br_t ht (br_t rfl (br_f (by decide) (br_t rfl (xe_239 hi96 (hX post hp))))))))⟩)
          · rw [cj, hl]
            refine br_f (nI_ge (by omega) (by omega)) ?_
            rw [ed_ix, nI_clamp (show 8 * j + i < 2 ^ 31 by omega), hs1, hσ]
            refine ⟨vp_in_nI (by omega) (by decide), nm_e ?_⟩
            have k : ∀ z0 : Int32, wY_edit_102 post (wY_edit_13 post (nI j) (nI F) (rd_b b) cn fp ck pf hr sp ix sc ye sz yj (d + 1)) (nI j) (nI F) (rd_b b) (nI (pi_c (pc j) L i)) fY (rd_b true) (nI i) 1 z0 cn fp ck pf hr sp ix sc ye sz yj q kd pl ln dc tm sn sd op ox oy oz sh ch oth lw hg le bk fm vy := by
              intro z0
              refine br_f (by decide) ?_
              have u : wY_edit_135 post (wY_edit_13 post (nI j) (nI F) (rd_b b) cn fp ck pf hr sp ix sc ye sz yj (d + 1)) (nI j) (nI F) (rd_b b) (nI (pi_c (pc j) L i)) (nI i) 1 cn fp ck pf hr sp ix sc ye sz yj q kd pl ln dc tm sn sd op ox oy oz sh ch oth lw hg le bk fm vy := by
                refine br_t rfl ⟨vY, ?_⟩
                rw [hcn0, ← hdo]
                exact nm_r eN (ye_175 hi96 (hY post hp))
              exact br_f (by decide) (br_t (by decide) u)
            exact br_f (by decide) (br_f (by decide) (br_f (by decide) (br_c (fun _ => k _) (fun _ => k _))))
        · obtain ⟨st', ok', hX, hY⟩ := IH (pi_c (pc j) L i + 1) (dr (pi_c (pc j) L i)) false 10 (dr (pi_c (pc j) L i)) hn hd0 (fun z => absurd z (by decide))
          refine ⟨st', ok', fun post hp => br_f (nI_ge (by omega) (by omega)) ⟨v, ?_⟩, fun post hp => ⟨v, ?_⟩⟩
          · rw [cj]
            refine xe_sign ?_
            rw [hσ]
            exact xe_isT (by decide) (by decide) (br_f (by decide) ⟨vX, nm_r eX (nm_r eN (br_f (by decide) (br_f ht (br_f (by decide) (br_t rfl (xe_239 hi96 (hX post hp)))))))⟩)
          · rw [cj, hl]
            refine br_f (nI_ge (by omega) (by omega)) ?_
            rw [ed_ix, nI_clamp (show 8 * j + i < 2 ^ 31 by omega), hs1, hσ]
            refine ⟨vp_in_nI (by omega) (by decide), nm_e ?_⟩
            have k : ∀ z0 : Int32, wY_edit_102 post (wY_edit_13 post (nI j) (nI F) (rd_b b) cn fp ck pf hr sp ix sc ye sz yj (d + 1)) (nI j) (nI F) (rd_b b) (nI (pi_c (pc j) L i)) fY (rd_b true) (nI i) 1 z0 cn fp ck pf hr sp ix sc ye sz yj q kd pl ln dc tm sn sd op ox oy oz sh ch oth lw hg le bk fm vy := by
              intro z0
              refine br_f (by decide) ?_
              have u : wY_edit_135 post (wY_edit_13 post (nI j) (nI F) (rd_b b) cn fp ck pf hr sp ix sc ye sz yj (d + 1)) (nI j) (nI F) (rd_b b) (nI (pi_c (pc j) L i)) (nI i) 1 cn fp ck pf hr sp ix sc ye sz yj q kd pl ln dc tm sn sd op ox oy oz sh ch oth lw hg le bk fm vy := by
                refine br_t rfl ⟨vY, ?_⟩
                rw [hcn0, ← hdo]
                exact nm_r eN (ye_175 hi96 (hY post hp))
              exact br_f (by decide) (br_t (by decide) u)
            exact br_f (by decide) (br_f (by decide) (br_f (by decide) (br_c (fun _ => k _) (fun _ => k _))))
    · have hlt : pi_s (pc j) L i < 4 := by rw [hσ]; decide
      have hn : pi_c (pc j) L i + 1 = pi_c (pc j) L (i + 1) := (pi_cs hlt).symm
      have hnD : pi_c (pc j) L i < D := by have := pi_mono (pc j) L (show i + 1 ≤ L by omega); omega
      obtain ⟨hdo, hd0⟩ := hdr _ hnD
      have eX : dr (nI (pi_c (pc j) L i)).toNatClampNeg = dr (pi_c (pc j) L i) := by rw [hcn0]
      have vX : vp_in (nI (pi_c (pc j) L i)) 8 := vp_in_nI (by omega) (by decide)
      have vY : vp_in (nI (pi_c (pc j) L i)) 32 := vp_in_nI (by omega) (by decide)
      have eN : nI (pi_c (pc j) L i) + 1 = nI (pi_c (pc j) L i + 1) := nI_1 _
      cases a with
      | false =>
        obtain ⟨st', ok', hX, hY⟩ := IH (pi_c (pc j) L i + 1) (dr (pi_c (pc j) L i)) false 10 (dr (pi_c (pc j) L i)) hn hd0 (fun z => absurd z (by decide))
        refine ⟨st', ok', fun post hp => br_f (nI_ge (by omega) (by omega)) ⟨v, ?_⟩, fun post hp => ⟨v, ?_⟩⟩
        · rw [cj]
          refine xe_sign ?_
          rw [hσ]
          exact xe_isT (by decide) (by decide) (br_f (by decide) ⟨vX, nm_r eX (nm_r eN (br_t rfl (br_f (by decide) (br_t rfl (xe_239 hi96 (hX post hp))))))⟩)
        · rw [cj, hl]
          refine br_f (nI_ge (by omega) (by omega)) ?_
          rw [ed_ix, nI_clamp (show 8 * j + i < 2 ^ 31 by omega), hs1, hσ]
          refine ⟨vp_in_nI (by omega) (by decide), nm_e ?_⟩
          have k : ∀ z0 : Int32, wY_edit_102 post (wY_edit_13 post (nI j) (nI F) (rd_b b) cn fp ck pf hr sp ix sc ye sz yj (d + 1)) (nI j) (nI F) (rd_b b) (nI (pi_c (pc j) L i)) fY (rd_b false) (nI i) 2 z0 cn fp ck pf hr sp ix sc ye sz yj q kd pl ln dc tm sn sd op ox oy oz sh ch oth lw hg le bk fm vy := by
            intro z0
            refine br_f (by decide) ?_
            have u : wY_edit_135 post (wY_edit_13 post (nI j) (nI F) (rd_b b) cn fp ck pf hr sp ix sc ye sz yj (d + 1)) (nI j) (nI F) (rd_b b) (nI (pi_c (pc j) L i)) (nI i) 2 cn fp ck pf hr sp ix sc ye sz yj q kd pl ln dc tm sn sd op ox oy oz sh ch oth lw hg le bk fm vy := by
              refine br_t rfl ⟨vY, ?_⟩
              rw [hcn0, ← hdo]
              exact nm_r eN (ye_175 hi96 (hY post hp))
            exact br_t rfl u
          exact br_f (by decide) (br_f (by decide) (br_f (by decide) (br_c (fun _ => k _) (fun _ => k _))))
      | true =>
        by_cases ht : dr (pi_c (pc j) L i) = 0
        · obtain ⟨st', ok', hX, hY⟩ := IH (pi_c (pc j) L i + 1) 10 true 10 10 hn (by decide) (fun _ => ⟨rfl, by decide⟩)
          refine ⟨st', ok', fun post hp => br_f (nI_ge (by omega) (by omega)) ⟨v, ?_⟩, fun post hp => ⟨v, ?_⟩⟩
          · rw [cj]
            refine xe_sign ?_
            rw [hσ]
            exact xe_isT (by decide) (by decide) (br_f (by decide) ⟨vX, nm_r eX (nm_r eN (br_f (by decide) (br_t ht (br_f (by decide) (br_f (by decide) (br_f (by decide) (xe_239 hi96 (hX post hp))))))))⟩)
          · rw [cj, hl]
            refine br_f (nI_ge (by omega) (by omega)) ?_
            rw [ed_ix, nI_clamp (show 8 * j + i < 2 ^ 31 by omega), hs1, hσ]
            refine ⟨vp_in_nI (by omega) (by decide), nm_e ?_⟩
            have k : ∀ z0 : Int32, wY_edit_102 post (wY_edit_13 post (nI j) (nI F) (rd_b b) cn fp ck pf hr sp ix sc ye sz yj (d + 1)) (nI j) (nI F) (rd_b b) (nI (pi_c (pc j) L i)) fY (rd_b true) (nI i) 2 z0 cn fp ck pf hr sp ix sc ye sz yj q kd pl ln dc tm sn sd op ox oy oz sh ch oth lw hg le bk fm vy := by
              intro z0
              refine br_f (by decide) ?_
              refine br_f (by decide) (br_f (by decide) ⟨vY, ?_⟩)
              rw [hcn0, ← hdo]
              exact br_t ht (br_f (by decide) (br_t rfl (nm_r eN (ye_175 hi96 (hY post hp)))))
            exact br_f (by decide) (br_f (by decide) (br_f (by decide) (br_c (fun _ => k _) (fun _ => k _))))
        · obtain ⟨st', ok', hX, hY⟩ := IH (pi_c (pc j) L i + 1) (dr (pi_c (pc j) L i)) false 10 (dr (pi_c (pc j) L i)) hn hd0 (fun z => absurd z (by decide))
          refine ⟨st', ok', fun post hp => br_f (nI_ge (by omega) (by omega)) ⟨v, ?_⟩, fun post hp => ⟨v, ?_⟩⟩
          · rw [cj]
            refine xe_sign ?_
            rw [hσ]
            exact xe_isT (by decide) (by decide) (br_f (by decide) ⟨vX, nm_r eX (nm_r eN (br_f (by decide) (br_f ht (br_f (by decide) (br_t rfl (xe_239 hi96 (hX post hp)))))))⟩)
          · rw [cj, hl]
            refine br_f (nI_ge (by omega) (by omega)) ?_
            rw [ed_ix, nI_clamp (show 8 * j + i < 2 ^ 31 by omega), hs1, hσ]
            refine ⟨vp_in_nI (by omega) (by decide), nm_e ?_⟩
            have k : ∀ z0 : Int32, wY_edit_102 post (wY_edit_13 post (nI j) (nI F) (rd_b b) cn fp ck pf hr sp ix sc ye sz yj (d + 1)) (nI j) (nI F) (rd_b b) (nI (pi_c (pc j) L i)) fY (rd_b true) (nI i) 2 z0 cn fp ck pf hr sp ix sc ye sz yj q kd pl ln dc tm sn sd op ox oy oz sh ch oth lw hg le bk fm vy := by
              intro z0
              refine br_f (by decide) ?_
              have u : wY_edit_135 post (wY_edit_13 post (nI j) (nI F) (rd_b b) cn fp ck pf hr sp ix sc ye sz yj (d + 1)) (nI j) (nI F) (rd_b b) (nI (pi_c (pc j) L i)) (nI i) 2 cn fp ck pf hr sp ix sc ye sz yj q kd pl ln dc tm sn sd op ox oy oz sh ch oth lw hg le bk fm vy := by
                refine br_t rfl ⟨vY, ?_⟩
                rw [hcn0, ← hdo]
                exact nm_r eN (ye_175 hi96 (hY post hp))
              refine br_f (by decide) (br_f (by decide) ⟨vY, ?_⟩)
              rw [hcn0, ← hdo]
              exact br_f ht u
            exact br_f (by decide) (br_f (by decide) (br_f (by decide) (br_c (fun _ => k _) (fun _ => k _))))
    · have hlt : pi_s (pc j) L i < 4 := by rw [hσ]; decide
      have hn : pi_c (pc j) L i + 1 = pi_c (pc j) L (i + 1) := (pi_cs hlt).symm
      have hnD : pi_c (pc j) L i < D := by have := pi_mono (pc j) L (show i + 1 ≤ L by omega); omega
      obtain ⟨hdo, hd0⟩ := hdr _ hnD
      have eX : dr (nI (pi_c (pc j) L i)).toNatClampNeg = dr (pi_c (pc j) L i) := by rw [hcn0]
      have vX : vp_in (nI (pi_c (pc j) L i)) 8 := vp_in_nI (by omega) (by decide)
      have vY : vp_in (nI (pi_c (pc j) L i)) 32 := vp_in_nI (by omega) (by decide)
      have eN : nI (pi_c (pc j) L i) + 1 = nI (pi_c (pc j) L i + 1) := nI_1 _
      cases a with
      | false =>
        obtain ⟨st', ok', hX, hY⟩ := IH (pi_c (pc j) L i + 1) (dr (pi_c (pc j) L i)) false 15 (dr (pi_c (pc j) L i)) hn hd0 (fun z => absurd z (by decide))
        refine ⟨st', ok', fun post hp => br_f (nI_ge (by omega) (by omega)) ⟨v, ?_⟩, fun post hp => ⟨v, ?_⟩⟩
        · rw [cj]
          refine xe_sign ?_
          rw [hσ]
          exact xe_isT (by decide) (by decide) (br_f (by decide) ⟨vX, nm_r eX (nm_r eN (br_t rfl (br_t rfl (br_t rfl (xe_239 hi96 (hX post hp))))))⟩)
        · rw [cj, hl]
          refine br_f (nI_ge (by omega) (by omega)) ?_
          rw [ed_ix, nI_clamp (show 8 * j + i < 2 ^ 31 by omega), hs1, hσ]
          refine ⟨vp_in_nI (by omega) (by decide), nm_e ?_⟩
          have k : ∀ z0 : Int32, wY_edit_102 post (wY_edit_13 post (nI j) (nI F) (rd_b b) cn fp ck pf hr sp ix sc ye sz yj (d + 1)) (nI j) (nI F) (rd_b b) (nI (pi_c (pc j) L i)) fY (rd_b false) (nI i) 3 z0 cn fp ck pf hr sp ix sc ye sz yj q kd pl ln dc tm sn sd op ox oy oz sh ch oth lw hg le bk fm vy := by
            intro z0
            refine br_f (by decide) ?_
            have u : wY_edit_135 post (wY_edit_13 post (nI j) (nI F) (rd_b b) cn fp ck pf hr sp ix sc ye sz yj (d + 1)) (nI j) (nI F) (rd_b b) (nI (pi_c (pc j) L i)) (nI i) 3 cn fp ck pf hr sp ix sc ye sz yj q kd pl ln dc tm sn sd op ox oy oz sh ch oth lw hg le bk fm vy := by
              refine br_t rfl ⟨vY, ?_⟩
              rw [hcn0, ← hdo]
              exact nm_r eN (ye_175 hi96 (hY post hp))
            exact br_t rfl u
          exact br_f (by decide) (br_f (by decide) (br_f (by decide) (br_c (fun _ => k _) (fun _ => k _))))
      | true =>
        by_cases ht : dr (pi_c (pc j) L i) = 0
        · obtain ⟨st', ok', hX, hY⟩ := IH (pi_c (pc j) L i + 1) 15 true 15 15 hn (by decide) (fun _ => ⟨rfl, by decide⟩)
          refine ⟨st', ok', fun post hp => br_f (nI_ge (by omega) (by omega)) ⟨v, ?_⟩, fun post hp => ⟨v, ?_⟩⟩
          · rw [cj]
            refine xe_sign ?_
            rw [hσ]
            exact xe_isT (by decide) (by decide) (br_f (by decide) ⟨vX, nm_r eX (nm_r eN (br_f (by decide) (br_t ht (br_f (by decide) (br_t rfl (br_f (by decide) (xe_239 hi96 (hX post hp))))))))⟩)
          · rw [cj, hl]
            refine br_f (nI_ge (by omega) (by omega)) ?_
            rw [ed_ix, nI_clamp (show 8 * j + i < 2 ^ 31 by omega), hs1, hσ]
            refine ⟨vp_in_nI (by omega) (by decide), nm_e ?_⟩
            have k : ∀ z0 : Int32, wY_edit_102 post (wY_edit_13 post (nI j) (nI F) (rd_b b) cn fp ck pf hr sp ix sc ye sz yj (d + 1)) (nI j) (nI F) (rd_b b) (nI (pi_c (pc j) L i)) fY (rd_b true) (nI i) 3 z0 cn fp ck pf hr sp ix sc ye sz yj q kd pl ln dc tm sn sd op ox oy oz sh ch oth lw hg le bk fm vy := by
              intro z0
              refine br_f (by decide) ?_
              refine br_f (by decide) (br_f (by decide) ⟨vY, ?_⟩)
              rw [hcn0, ← hdo]
              exact br_t ht (br_f (by decide) (br_f (by decide) (nm_r eN (ye_175 hi96 (hY post hp)))))
            exact br_f (by decide) (br_f (by decide) (br_f (by decide) (br_c (fun _ => k _) (fun _ => k _))))
        · obtain ⟨st', ok', hX, hY⟩ := IH (pi_c (pc j) L i + 1) (dr (pi_c (pc j) L i)) false 15 (dr (pi_c (pc j) L i)) hn hd0 (fun z => absurd z (by decide))
          refine ⟨st', ok', fun post hp => br_f (nI_ge (by omega) (by omega)) ⟨v, ?_⟩, fun post hp => ⟨v, ?_⟩⟩
          · rw [cj]
            refine xe_sign ?_
            rw [hσ]
            exact xe_isT (by decide) (by decide) (br_f (by decide) ⟨vX, nm_r eX (nm_r eN (br_f (by decide) (br_f ht (br_t rfl (br_t rfl (xe_239 hi96 (hX post hp)))))))⟩)
          · rw [cj, hl]
            refine br_f (nI_ge (by omega) (by omega)) ?_
            rw [ed_ix, nI_clamp (show 8 * j + i < 2 ^ 31 by omega), hs1, hσ]
            refine ⟨vp_in_nI (by omega) (by decide), nm_e ?_⟩
            have k : ∀ z0 : Int32, wY_edit_102 post (wY_edit_13 post (nI j) (nI F) (rd_b b) cn fp ck pf hr sp ix sc ye sz yj (d + 1)) (nI j) (nI F) (rd_b b) (nI (pi_c (pc j) L i)) fY (rd_b true) (nI i) 3 z0 cn fp ck pf hr sp ix sc ye sz yj q kd pl ln dc tm sn sd op ox oy oz sh ch oth lw hg le bk fm vy := by
              intro z0
              refine br_f (by decide) ?_
              have u : wY_edit_135 post (wY_edit_13 post (nI j) (nI F) (rd_b b) cn fp ck pf hr sp ix sc ye sz yj (d + 1)) (nI j) (nI F) (rd_b b) (nI (pi_c (pc j) L i)) (nI i) 3 cn fp ck pf hr sp ix sc ye sz yj q kd pl ln dc tm sn sd op ox oy oz sh ch oth lw hg le bk fm vy := by
                refine br_t rfl ⟨vY, ?_⟩
                rw [hcn0, ← hdo]
                exact nm_r eN (ye_175 hi96 (hY post hp))
              refine br_f (by decide) (br_f (by decide) ⟨vY, ?_⟩)
              rw [hcn0, ← hdo]
              exact br_f ht u
            exact br_f (by decide) (br_f (by decide) (br_f (by decide) (br_c (fun _ => k _) (fun _ => k _))))
    · have hn : pi_c (pc j) L i = pi_c (pc j) L (i + 1) := (pi_cn (by rw [hσ]; decide)).symm
      cases a with
      | false =>
        obtain ⟨st', ok', hX, hY⟩ := IH (pi_c (pc j) L i) 14 false fX fY hn (by decide) hf
        refine ⟨st', ok', fun post hp => br_f (nI_ge (by omega) (by omega)) ⟨v, ?_⟩, fun post hp => ⟨v, ?_⟩⟩
        · rw [cj]
          refine xe_sign ?_
          rw [hσ]
          exact xe_isF (by decide) (by decide) (br_t rfl (br_t rfl (br_t rfl (xe_239 hi96 (hX post hp)))))
        · rw [cj, hl]
          refine br_f (nI_ge (by omega) (by omega)) ?_
          rw [ed_ix, nI_clamp (show 8 * j + i < 2 ^ 31 by omega), hs1, hσ]
          refine ⟨vp_in_nI (by omega) (by decide), nm_e ?_⟩
          exact br_t rfl (br_t rfl (br_t (by decide) (ye_175 hi96 (hY post hp))))
      | true =>
        obtain ⟨hfe, hf0⟩ := hf rfl
        subst hfe
        obtain ⟨st', ok', hX, hY⟩ := IH (pi_c (pc j) L i) fX true fX fX hn hf0 (fun _ => ⟨rfl, hf0⟩)
        refine ⟨st', ok', fun post hp => br_f (nI_ge (by omega) (by omega)) ⟨v, ?_⟩, fun post hp => ⟨v, ?_⟩⟩
        · rw [cj]
          refine xe_sign ?_
          rw [hσ]
          exact xe_isF (by decide) (by decide) (br_t rfl (br_t rfl (br_f (by decide) (xe_239 hi96 (hX post hp)))))
        · rw [cj, hl]
          refine br_f (nI_ge (by omega) (by omega)) ?_
          rw [ed_ix, nI_clamp (show 8 * j + i < 2 ^ 31 by omega), hs1, hσ]
          refine ⟨vp_in_nI (by omega) (by decide), nm_e ?_⟩
          exact br_t rfl (br_f (by decide) (br_t (by decide) (ye_175 hi96 (hY post hp))))
    · have hn : pi_c (pc j) L i = pi_c (pc j) L (i + 1) := (pi_cn (by rw [hσ]; decide)).symm
      obtain ⟨st', ok', hX, hY⟩ := IH (pi_c (pc j) L i) 13 a fX fY hn (by decide) hf
      refine ⟨st', ok', fun post hp => br_f (nI_ge (by omega) (by omega)) ⟨v, ?_⟩, fun post hp => ⟨v, ?_⟩⟩
      · rw [cj]
        refine xe_sign ?_
        rw [hσ]
        exact xe_isF (by decide) (by decide) (br_t rfl (br_f (by decide) (br_t rfl (xe_239 hi96 (hX post hp)))))
      · rw [cj, hl]
        refine br_f (nI_ge (by omega) (by omega)) ?_
        rw [ed_ix, nI_clamp (show 8 * j + i < 2 ^ 31 by omega), hs1, hσ]
        refine ⟨vp_in_nI (by omega) (by decide), nm_e ?_⟩
        exact br_f (by decide) (br_t rfl (br_t (by decide) (ye_175 hi96 (hY post hp))))
    · have hn : pi_c (pc j) L i = pi_c (pc j) L (i + 1) := (pi_cn (by rw [hσ]; decide)).symm
      cases b with
      | false =>
        have h0 : 0 ≤ x3 := hx3.mpr rfl
        obtain ⟨st', ok', hX, hY⟩ := IH (pi_c (pc j) L i) 10 a fX fY hn (by decide) hf
        refine ⟨st', ok', fun post hp => br_f (nI_ge (by omega) (by omega)) ⟨v, ?_⟩, fun post hp => ⟨v, ?_⟩⟩
        · rw [cj]
          refine xe_sign ?_
          rw [hσ]
          exact xe_isF (by decide) (by decide) (br_t rfl (br_f (by decide) (br_f (by decide) (br_t h0 (br_f (by decide) (xe_239 hi96 (hX post hp)))))))
        · rw [cj, hl]
          refine br_f (nI_ge (by omega) (by omega)) ?_
          rw [ed_ix, nI_clamp (show 8 * j + i < 2 ^ 31 by omega), hs1, hσ]
          refine ⟨vp_in_nI (by omega) (by decide), nm_e ?_⟩
          exact br_f (by decide) (br_f (by decide) (br_t rfl (br_t rfl (br_t (by decide) (ye_175 hi96 (hY post hp))))))
      | true =>
        have h0 : ¬ 0 ≤ x3 := fun z => absurd (hx3.mp z) (by decide)
        obtain ⟨st', ok', hX, hY⟩ := IH (pi_c (pc j) L i) 11 a fX fY hn (by decide) hf
        refine ⟨st', ok', fun post hp => br_f (nI_ge (by omega) (by omega)) ⟨v, ?_⟩, fun post hp => ⟨v, ?_⟩⟩
        · rw [cj]
          refine xe_sign ?_
          rw [hσ]
          exact xe_isF (by decide) (by decide) (br_t rfl (br_f (by decide) (br_f (by decide) (br_f h0 (xe_239 hi96 (hX post hp))))))
        · rw [cj, hl]
          refine br_f (nI_ge (by omega) (by omega)) ?_
          rw [ed_ix, nI_clamp (show 8 * j + i < 2 ^ 31 by omega), hs1, hσ]
          refine ⟨vp_in_nI (by omega) (by decide), nm_e ?_⟩
          exact br_f (by decide) (br_f (by decide) (br_t rfl (br_f (by decide) (br_t (by decide) (ye_175 hi96 (hY post hp))))))
    · have hn : pi_c (pc j) L i = pi_c (pc j) L (i + 1) := (pi_cn (by rw [hσ]; decide)).symm
      cases b with
      | false =>
        have h0 : 0 ≤ x3 := hx3.mpr rfl
        obtain ⟨st', ok', hX, hY⟩ := IH (pi_c (pc j) L i) 12 a fX fY hn (by decide) hf
        refine ⟨st', ok', fun post hp => br_f (nI_ge (by omega) (by omega)) ⟨v, ?_⟩, fun post hp => ⟨v, ?_⟩⟩
        · rw [cj]
          refine xe_sign ?_
          rw [hσ]
          exact xe_isF (by decide) (by decide) (br_t rfl (br_f (by decide) (br_f (by decide) (br_t h0 (br_t rfl (xe_239 hi96 (hX post hp)))))))
        · rw [cj, hl]
          refine br_f (nI_ge (by omega) (by omega)) ?_
          rw [ed_ix, nI_clamp (show 8 * j + i < 2 ^ 31 by omega), hs1, hσ]
          refine ⟨vp_in_nI (by omega) (by decide), nm_e ?_⟩
          exact br_f (by decide) (br_f (by decide) (br_f (by decide) (br_t rfl (br_t (by decide) (ye_175 hi96 (hY post hp))))))
      | true =>
        have h0 : ¬ 0 ≤ x3 := fun z => absurd (hx3.mp z) (by decide)
        obtain ⟨st', ok', hX, hY⟩ := IH (pi_c (pc j) L i) 11 a fX fY hn (by decide) hf
        refine ⟨st', ok', fun post hp => br_f (nI_ge (by omega) (by omega)) ⟨v, ?_⟩, fun post hp => ⟨v, ?_⟩⟩
        · rw [cj]
          refine xe_sign ?_
          rw [hσ]
          exact xe_isF (by decide) (by decide) (br_t rfl (br_f (by decide) (br_f (by decide) (br_f h0 (xe_239 hi96 (hX post hp))))))
        · rw [cj, hl]
          refine br_f (nI_ge (by omega) (by omega)) ?_
          rw [ed_ix, nI_clamp (show 8 * j + i < 2 ^ 31 by omega), hs1, hσ]
          refine ⟨vp_in_nI (by omega) (by decide), nm_e ?_⟩
          exact br_f (by decide) (br_f (by decide) (br_f (by decide) (br_f (by decide) (br_t (by decide) (ye_175 hi96 (hY post hp))))))
end
end
section
/-! store of both sides: one storage comes out -/
theorem dg_Nlt {m has wants : Nat} (hm : m < 9000000000) (hw : wants ≤ 9) : dg_N m has wants < 9000000000000000000 := by
  unfold dg_N
  by_cases h : has ≤ wants
  · rw [if_pos h]
    have h1 : 10 ^ (wants - has) ≤ 10 ^ 9 := ar_ple (by omega)
    have h2 : m * 10 ^ (wants - has) ≤ m * 10 ^ 9 := Nat.mul_le_mul_left m h1
    rw [show 10 ^ 9 = 1000000000 from by decide] at h2
    omega
  · rw [if_neg h]
    have := Nat.div_le_self m (10 ^ (has - wants))
    omega
theorem ar_rms {s : Bool} {a b : Nat} (ha : a < 9223372036854775808) (hb : b < 9223372036854775808) : ar_l (ar_s s a) - ar_l (ar_s s a) / ar_l (b : Int) * ar_l (b : Int) = ar_l (ar_s s (a % b)) := by
  rw [ar_rem (ar_sB ha) (ar_nB hb), ar_tm]
theorem st_okp {st f : Nat → Int32} {p lo hi : Nat} (h : st_ok st) (hf : ∀ i, lo ≤ i → i < hi → ¬ f i < 0) : st_ok (sg_put st p lo hi f) := by
  intro k
  unfold sg_put
  by_cases c : p + lo ≤ k ∧ k < p + hi
  · rw [if_pos c]; exact hf _ (by omega) (by omega)
  · rw [if_neg c]; exact h k
theorem sr_ok {st : Nat → Int32} {F S W M : Nat} {s : Bool} (h : st_ok st) : st_ok (sr_x st F S W s M) := by
  have hf : ∀ i, S ≤ i → i < W → ¬ sr_f M W i < 0 := fun i _ _ => nI_pos (Nat.lt_of_lt_of_le (Nat.mod_lt _ (by decide)) (by decide))
  unfold sr_x
  by_cases h0 : S = 0
  · rw [if_pos h0]; exact st_okp h hf
  · rw [if_neg h0]
    refine ed_ok (st_okp h hf) ?_
    by_cases c : s = true ∧ 0 < M
    · rw [if_pos c]; decide
    · rw [if_neg c]; decide
section
variable {cn ck fp pg ob hr sp ix sz pf sc ye yj : Int32}
variable {st kd pl wd tm dg dc ss pc op ox oy oz ps jp oi pa pt sh lc rc dr ln sn sd ch oth lw hg le bk fm vy : Nat → Int32}
variable {K A W T D B S L e j F M m has N : Nat} {s : Bool}
theorem xs_40 {post : SX → Prop} (hj : j < 12) (R : it_R kd pl wd tm dg dc ss pc ln sn sd j K A W T D B S L) (hN : N < 9000000000000000000)
    (h3 : K = 3 → wpX_putEdited post (cn, ck, fp, pg, ob, hr, sp, ix, sz, pf, sc, st, kd, pl, wd, tm, dg, dc, ss, pc, op, ox, oy, oz, ps, jp, oi, pa, pt, sh, lc, rc, dr) (nI j) (nI F) (ar_l (ar_s s (N % 10 ^ D)))) (h1 : ¬ K = 3 → wpX_putNumber post (cn, ck, fp, pg, ob, hr, sp, ix, sz, pf, sc, st, kd, pl, wd, tm, dg, dc, ss, pc, op, ox, oy, oz, ps, jp, oi, pa, pt, sh, lc, rc, dr) (nI j) (nI F) (ar_l (ar_s s (N % 10 ^ D)))) : wX_store_40 post (nI j) (nI F) (ar_l (ar_s s N)) cn ck fp pg ob hr sp ix sz pf sc st kd pl wd tm dg dc ss pc op ox oy oz ps jp oi pa pt sh lc rc dr := by
  obtain ⟨⟨r1, r2, r3, r4, r5, r6, r7, r8⟩, ⟨k1, k2, k3, k4, k5, k6, k7, k8, k9, k10, k11⟩, -, -, -⟩ := R
  have v : vp_in (nI j) 12 := vp_in_nI hj (by decide)
  have hp : 10 ^ D ≤ 10 ^ 9 := ar_ple k11
  rw [show 10 ^ 9 = 1000000000 from by decide] at hp
  refine ⟨v, ?_⟩
  rw [nI_clamp (show j < 2 ^ 31 by omega), r5, r1]
  refine xw_ten k11 ⟨ar_n0 (ar_pp D) (by omega), nm_r (ar_rms (by omega) (by omega)) ⟨v, ?_⟩⟩
  by_cases hK : K = 3
  · subst hK
    exact br_t rfl (h3 rfl)
  · exact br_f (fun z => hK ((nI_eq (b := 3) (by omega) (by decide)).mp z)) (h1 hK)
theorem xs_store {post : SX → Prop} (hj : j < 12) (R : it_R kd pl wd tm dg dc ss pc ln sn sd j K A W T D B S L) (hx : it_X ix T e) (hm : m < 9000000000) (hh : has ≤ 9)
    (h : wX_store_40 post (nI j) (nI (A + (e - 1) * W)) (ar_l (ar_s s (dg_N m has B))) cn ck fp pg ob hr sp ix sz pf sc st kd pl wd tm dg dc ss pc op ox oy oz ps jp oi pa pt sh lc rc dr) : wpX_store post (cn, ck, fp, pg, ob, hr, sp, ix, sz, pf, sc, st, kd, pl, wd, tm, dg, dc, ss, pc, op, ox, oy, oz, ps, jp, oi, pa, pt, sh, lc, rc, dr) (nI j) (ar_l (ar_s s m)) (nI has) := by
  have R0 := R
  obtain ⟨⟨r1, r2, r3, r4, r5, r6, r7, r8⟩, ⟨k1, k2, k3, k4, k5, k6, k7, k8, k9, k10, k11⟩, -, -, -⟩ := R0
  have v : vp_in (nI j) 12 := vp_in_nI hj (by decide)
  unfold wpX_store
  refine xi_place hj R hx ?_
  refine ⟨v, ?_⟩
  rw [nI_clamp (show j < 2 ^ 31 by omega), r6]
  unfold dg_N at h
  by_cases hc : has ≤ B
  · rw [if_pos hc] at h
    refine nm_r (pk_sub hc) (br_f (nI_pos (by omega)) (xw_len (by omega) ?_))
    rw [ar_ms]
    exact h
  · rw [if_neg hc] at h
    refine nm_e (br_t (pk_sneg (by omega) (by omega)) ?_)
    rw [Int32.neg_sub, pk_sub (by omega)]
    exact xw_short (r := false) (by omega) (by omega) h
theorem ys_cntL {post : SY → Prop} {p : Int32} {x3 : Int64} (hj : j < 12) (hk : kd j = nI 3) (hL : L ≤ 8) (hsn : ∀ k, k < L → sn (8 * j + k) = pi_s (pc j) L k ∧ pi_s (pc j) L k ≠ 0)
    (h : ∃ n, wY_store_92 post (nI j) x3 (nI has) (nI (pi_c (pc j) L L)) p cn fp ck pf hr sp ix sc ye sz yj n 0 0 st kd pl ln dc tm sn sd op ox oy oz sh ch oth lw hg le bk fm vy) :
    ∀ (d i : Nat) (x6 x9 : Int32), i + d = L → x6 = nI (pi_c (pc j) L i) → x9 = nI i → wY_store_36 post (nI j) x3 (nI has) p (nI L) cn fp ck pf hr sp ix sc ye sz yj st kd pl ln dc tm sn sd op ox oy oz sh ch oth lw hg le bk fm vy (d + 1) x6 x9
  | 0, i, x6, x9, hd, h6, h9 => by
    subst h6 h9
    have e1 : i = L := by omega
    subst e1
    refine br_t (nI_le (Nat.le_refl _) (by omega)) ⟨vp_in_nI hj (by decide), ?_⟩
    rw [nI_clamp (show j < 2 ^ 31 by omega), hk]
    exact br_f (by decide) h
  | d + 1, i, x6, x9, hd, h6, h9 => by
    subst h6 h9
    refine br_f (nI_ge (by omega) (by omega)) ?_
    rw [ed_ix, nI_clamp (show 8 * j + i < 2 ^ 31 by omega), (hsn i (by omega)).1]
    refine ⟨vp_in_nI (by omega) (by decide), br_c (fun z => nm_e ?_) (fun z => nm_e (nm_e ?_))⟩
    · exact ys_cntL hj hk hL hsn h d (i + 1) _ _ (by omega) (by rw [pi_cn (Int32.not_lt.mpr z)]) (nI_1 i)
    · exact ys_cntL hj hk hL hsn h d (i + 1) _ _ (by omega) (by rw [pi_cs (Int32.not_le.mp z)]; exact nI_1 _) (nI_1 i)
theorem sp_pair (hj : j < 12) (R : it_R kd pl wd tm dg dc ss pc ln sn sd j K A W T D B S L) (hx : it_X ix T e) (hK : K = 1 ∨ K = 3) (ok : st_ok st) (hm : m < 9000000000) (hh : has ≤ 9) (hs : s = true → 0 < m) :
    ∃ st' dr' oth', st_ok st' ∧ (∀ post, post (cn, ck, fp, pg, ob, hr, sp, ix, sz, pf, sc, st', kd, pl, wd, tm, dg, dc, ss, pc, op, ox, oy, oz, ps, jp, oi, pa, pt, sh, lc, rc, dr') → wpX_store post (cn, ck, fp, pg, ob, hr, sp, ix, sz, pf, sc, st, kd, pl, wd, tm, dg, dc, ss, pc, op, ox, oy, oz, ps, jp, oi, pa, pt, sh, lc, rc, dr) (nI j) (ar_l (ar_s s m)) (nI has)) ∧
      (∀ post, post (cn, fp, ck, pf, hr, sp, ix, sc, ye, sz, yj, st', kd, pl, ln, dc, tm, sn, sd, op, ox, oy, oz, sh, ch, oth', lw, hg, le, bk, fm, vy) → wpY_store post (cn, fp, ck, pf, hr, sp, ix, sc, ye, sz, yj, st, kd, pl, ln, dc, tm, sn, sd, op, ox, oy, oz, sh, ch, oth, lw, hg, le, bk, fm, vy) (nI j) (nI e) (ar_l (ar_s s m)) (nI has)) := by
  have R0 := R
  obtain ⟨⟨r1, r2, r3, r4, r5, r6, r7, r8⟩, ⟨k1, k2, k3, k4, k5, k6, k7, k8, k9, k10, k11⟩, q1, q2, q3⟩ := R0
  have hF : A + (e - 1) * W + W ≤ 96 := it_F k8 hx.1 hx.2.1
  have hN := dg_Nlt (has := has) hm k10
  have hMd : ∀ k, k < D → dg_N m has B % 10 ^ D / 10 ^ k % 10 = dg_d m has B k := fun k hk => by rw [dg_mod _ _ _ hk, dg_Nd]
  have hMl : dg_N m has B % 10 ^ D < 10 ^ D := Nat.mod_lt _ (ar_pp D)
  rcases hK with hK | hK
  · subst hK
    obtain ⟨qa, qb, qc, qd⟩ := q1 rfl
    subst qa
    refine ⟨sr_x st (A + (e - 1) * W) S W s (dg_N m has B % 10 ^ D), dr, sg_put oth 0 0 D (ys_o m has B D), sr_ok ok, fun post hp => ?_, fun post hp => ?_⟩
    · exact xs_store hj R hx hm hh (xs_40 hj R hN (fun z => absurd z (by decide)) (fun _ => xs_num hj R hF hMl qb hp))
    · refine ys_num hj R rfl hx.1 hx.2.1 (by omega) hh hs ?_
      rw [ys_eq (b := bl_f s (ys_g m has B D) D) (s := s) (M := dg_N m has B % 10 ^ D) (W := W) k7 k9 (bl_eq s m has B D) hMd]
      exact hp
  · subst hK
    obtain ⟨qb, qa, qc, qd⟩ := q3 rfl
    have qs := q2 (by decide)
    subst qs
    have eW : W = L := k7
    subst eW
    have hD8 : D ≤ 8 := by have := pi_le (pc j) W W; omega
    have hbl := bl_eq s m has B D
    have hM18 : dg_N m has B % 10 ^ D < 1000000000 := Nat.lt_of_lt_of_le hMl (Nat.pow_le_pow_right (n := 10) (by decide) k11)
    have hx3 : 0 ≤ ar_l (ar_s s (dg_N m has B % 10 ^ D)) ↔ bl_f s (ys_g m has B D) D = false := by
      rw [ar_le0 (ar_sB (by omega))]
      have h1 := ar_neg0 s (dg_N m has B % 10 ^ D)
      cases hb : bl_f s (ys_g m has B D) D with
      | false =>
        refine ⟨fun _ => rfl, fun _ => ?_⟩
        have : ¬ ar_s s (dg_N m has B % 10 ^ D) < 0 := fun z => absurd (hb.symm.trans (hbl.mpr (h1.mp z))) (by decide)
        omega
      | true =>
        refine ⟨fun z => ?_, fun z => absurd z (by decide)⟩
        have := h1.mpr (hbl.mp hb)
        omega
    obtain ⟨st', ok', hX, hY⟩ := ed_loop (b := bl_f s (ys_g m has B D) D) (x3 := ar_l (ar_s s (dg_N m has B % 10 ^ D))) (cn := cn) (ck := ck) (fp := fp) (pg := pg) (ob := ob) (hr := hr) (sp := sp) (ix := ix) (sz := sz) (pf := pf) (sc := sc) (ye := ye) (yj := yj) (kd := kd) (pl := pl) (wd := wd) (tm := tm) (dg := dg) (dc := dc) (ss := ss) (pc := pc) (op := op) (ox := ox) (oy := oy) (oz := oz) (ps := ps) (jp := jp) (oi := oi) (pa := pa) (pt := pt) (sh := sh) (lc := lc) (rc := rc) (dr := sg_put dr 0 0 D (sr_f (dg_N m has B % 10 ^ D) D)) (ln := ln) (sn := sn) (sd := sd) (ch := ch) (oth := sg_put oth 0 0 D (ys_o m has B D)) (lw := lw) (hg := hg) (le := le) (bk := bk) (fm := fm) (vy := vy) (F := A + (e - 1) * W)
      hj r3 r8 qb qa.symm hD8 qd hF (fun i hi => by
        rw [sg_in0 _ _ _ _ (Nat.zero_le _) hi, sg_in0 _ _ _ _ (Nat.zero_le _) hi]
        refine ⟨?_, nI_pos (Nat.lt_of_lt_of_le (Nat.mod_lt _ (by decide)) (by decide))⟩
        unfold sr_f ys_o
        rw [hMd _ (by omega)]) hx3 W 0 st true 10 10 (by omega) ok (fun _ => ⟨rfl, by decide⟩)
    have v : vp_in (nI j) 12 := vp_in_nI hj (by decide)
    refine ⟨st', sg_put dr 0 0 D (sr_f (dg_N m has B % 10 ^ D) D), sg_put oth 0 0 D (ys_o m has B D), ok', fun post hp => ?_, fun post hp => ?_⟩
    · refine xs_store hj R hx hm hh (xs_40 hj R hN (fun _ => ?_) (fun z => absurd rfl z))
      refine ar_ab (by omega) (fun z => wX_putEdited_12 _ (nI j) _ _ z cn ck fp pg ob hr sp ix sz pf sc st kd pl wd tm dg dc ss pc op ox oy oz ps jp oi pa pt sh lc rc dr) ⟨v, ?_⟩
      rw [nI_clamp (show j < 2 ^ 31 by omega), r5]
      refine nm_e ⟨D + 1, xe_digL hj r3 hD8 (by omega) ⟨_, hX _ hp⟩ D _ _ _ (Nat.le_refl _) (by rw [Nat.sub_self, Nat.pow_zero, Nat.div_one]) rfl (sg_0 _ _ _ _).symm⟩
    · unfold wpY_store
      refine yi_spot hj R hx.1 ?_
      refine ⟨v, ?_⟩
      rw [nI_clamp (show j < 2 ^ 31 by omega), r1, r8]
      refine br_t rfl ⟨v, nm_e ⟨W + 1, ys_cntL hj r1 qb qd ?_ W 0 _ _ (by omega) rfl rfl⟩⟩
      rw [← qa]
      refine ⟨D + 1, ys_digL hj r6 k10 (by omega) (by omega) hh hs (fun n => ?_) D 0 _ _ _ (by omega) rfl rfl (sg_0 _ _ _ _).symm⟩
      refine br_t (nI_le (Nat.le_refl _) (by omega)) ⟨v, ?_⟩
      rw [nI_clamp (show j < 2 ^ 31 by omega), r1]
      exact br_t rfl ⟨_, hY _ hp⟩
end
end
section
/-! characters: takeCharacters and take, takeDigits and spell -/
section
variable {cn ck fp pg ob hr sp ix sz pf sc ye yj : Int32}
variable {st kd pl wd tm dg dc ss pc op ox oy oz ps jp oi pa pt sh lc rc dr ln sn sd ch oth lw hg le bk fm vy : Nat → Int32}
variable {K A W T D B S L e j F M m has N n : Nat} {s : Bool}
theorem xt_leftL {post : SX → Prop} {p w : Nat} (hp : p + w ≤ 96) (h : post (cn, ck, fp, pg, ob, hr, sp, ix, sz, pf, sc, st, kd, pl, wd, tm, dg, dc, ss, pc, op, ox, oy, oz, ps, jp, oi, pa, pt, sh, sg_put lc 0 0 12 (tx_c st p w), rc, dr)) : ∀ (d i : Nat) (x6 : Int32) (q : Nat → Int32), i + d = 12 → x6 = nI i → q = sg_put lc 0 0 i (tx_c st p w) →
    wX_takeCharacters__leftCharacters_29 post (nI p) (nI w) cn ck fp pg ob hr sp ix sz pf sc (d + 1) x6 st kd pl wd tm dg dc ss pc op ox oy oz ps jp oi pa pt sh q rc dr
  | 0, i, x6, q, hd, h6, hq => by
    subst h6 hq
    have e1 : i = 12 := by omega
    subst e1
    exact br_t (by decide) h
  | d + 1, i, x6, q, hd, h6, hq => by
    subst h6 hq
    refine br_f (nI_ge (b := 12) (by omega) (by decide)) ?_
    have IH : ∀ q' : Nat → Int32, q' = sg_put lc 0 0 (i + 1) (tx_c st p w) → wX_takeCharacters__leftCharacters_29 post (nI p) (nI w) cn ck fp pg ob hr sp ix sz pf sc (d + 1) (nI i + 1) st kd pl wd tm dg dc ss pc op ox oy oz ps jp oi pa pt sh q' rc dr := fun q' e => xt_leftL hp h d (i + 1) _ _ (by omega) (nI_1 i) e
    have v : vp_in (nI i) 12 := vp_in_nI (by omega) (by decide)
    have ci : (nI i).toNatClampNeg = i := nI_clamp (by omega)
    have up := sg_up0 lc i (tx_c st p w)
    unfold tx_c at up
    by_cases hw : i < w
    · refine br_f (nI_ge hw (by omega)) ?_
      rw [nI_add, nI_clamp (show p + i < 2 ^ 31 by omega), ci]
      refine ⟨vp_in_nI (by omega) (by decide), v, nm_e (nm_e (IH _ ?_))⟩
      rw [if_pos hw] at up
      exact up
    · refine br_t (nI_le (by omega) (by omega)) ?_
      rw [ci]
      refine ⟨v, nm_e (nm_e (IH _ ?_))⟩
      rw [if_neg hw] at up
      exact up
theorem xt_left {post : SX → Prop} (hj : j < 12) (R : it_R kd pl wd tm dg dc ss pc ln sn sd j K A W T D B S L) (hx : it_X ix T e) (h : post (cn, ck, fp, pg, ob, hr, sp, ix, sz, pf, sc, st, kd, pl, wd, tm, dg, dc, ss, pc, op, ox, oy, oz, ps, jp, oi, pa, pt, sh, sg_put lc 0 0 12 (tx_c st (A + (e - 1) * W + S) (W - S)), rc, dr)) : wpX_takeCharacters__leftCharacters post (cn, ck, fp, pg, ob, hr, sp, ix, sz, pf, sc, st, kd, pl, wd, tm, dg, dc, ss, pc, op, ox, oy, oz, ps, jp, oi, pa, pt, sh, lc, rc, dr) (nI j) := by
  have R0 := R
  obtain ⟨⟨r1, r2, r3, r4, r5, r6, r7, r8⟩, ⟨k1, k2, k3, k4, k5, k6, k7, k8, k9, k10, k11⟩, -, -, -⟩ := R0
  have hF : A + (e - 1) * W + W ≤ 96 := it_F k8 hx.1 hx.2.1
  have v : vp_in (nI j) 12 := vp_in_nI hj (by decide)
  refine ⟨v, nm_e (xi_place hj R hx ?_)⟩
  generalize A + (e - 1) * W = F at *
  rw [nI_clamp (show j < 2 ^ 31 by omega), r7, r3]
  refine nm_r (nI_add _ _) ⟨v, nm_r (pk_sub (by omega)) ⟨13, xt_leftL (by omega) h 12 0 _ _ (by omega) rfl (sg_0 _ _ _ _).symm⟩⟩
theorem xt_rightL {post : SX → Prop} {p w : Nat} (hp : p + w ≤ 96) (h : post (cn, ck, fp, pg, ob, hr, sp, ix, sz, pf, sc, st, kd, pl, wd, tm, dg, dc, ss, pc, op, ox, oy, oz, ps, jp, oi, pa, pt, sh, lc, sg_put rc 0 0 12 (tx_c st p w), dr)) : ∀ (d i : Nat) (x6 : Int32) (q : Nat → Int32), i + d = 12 → x6 = nI i → q = sg_put rc 0 0 i (tx_c st p w) →
    wX_takeCharacters__rightCharacters_29 post (nI p) (nI w) cn ck fp pg ob hr sp ix sz pf sc (d + 1) x6 st kd pl wd tm dg dc ss pc op ox oy oz ps jp oi pa pt sh lc q dr
  | 0, i, x6, q, hd, h6, hq => by
    subst h6 hq
    have e1 : i = 12 := by omega
    subst e1
    exact br_t (by decide) h
  | d + 1, i, x6, q, hd, h6, hq => by
    subst h6 hq
    refine br_f (nI_ge (b := 12) (by omega) (by decide)) ?_
    have IH : ∀ q' : Nat → Int32, q' = sg_put rc 0 0 (i + 1) (tx_c st p w) → wX_takeCharacters__rightCharacters_29 post (nI p) (nI w) cn ck fp pg ob hr sp ix sz pf sc (d + 1) (nI i + 1) st kd pl wd tm dg dc ss pc op ox oy oz ps jp oi pa pt sh lc q' dr := fun q' e => xt_rightL hp h d (i + 1) _ _ (by omega) (nI_1 i) e
    have v : vp_in (nI i) 12 := vp_in_nI (by omega) (by decide)
    have ci : (nI i).toNatClampNeg = i := nI_clamp (by omega)
    have up := sg_up0 rc i (tx_c st p w)
    unfold tx_c at up
    by_cases hw : i < w
    · refine br_f (nI_ge hw (by omega)) ?_
      rw [nI_add, nI_clamp (show p + i < 2 ^ 31 by omega), ci]
      refine ⟨vp_in_nI (by omega) (by decide), v, nm_e (nm_e (IH _ ?_))⟩
      rw [if_pos hw] at up
      exact up
    · refine br_t (nI_le (by omega) (by omega)) ?_
      rw [ci]
      refine ⟨v, nm_e (nm_e (IH _ ?_))⟩
      rw [if_neg hw] at up
      exact up
theorem xt_right {post : SX → Prop} (hj : j < 12) (R : it_R kd pl wd tm dg dc ss pc ln sn sd j K A W T D B S L) (hx : it_X ix T e) (h : post (cn, ck, fp, pg, ob, hr, sp, ix, sz, pf, sc, st, kd, pl, wd, tm, dg, dc, ss, pc, op, ox, oy, oz, ps, jp, oi, pa, pt, sh, lc, sg_put rc 0 0 12 (tx_c st (A + (e - 1) * W + S) (W - S)), dr)) : wpX_takeCharacters__rightCharacters post (cn, ck, fp, pg, ob, hr, sp, ix, sz, pf, sc, st, kd, pl, wd, tm, dg, dc, ss, pc, op, ox, oy, oz, ps, jp, oi, pa, pt, sh, lc, rc, dr) (nI j) := by
  have R0 := R
  obtain ⟨⟨r1, r2, r3, r4, r5, r6, r7, r8⟩, ⟨k1, k2, k3, k4, k5, k6, k7, k8, k9, k10, k11⟩, -, -, -⟩ := R0
  have hF : A + (e - 1) * W + W ≤ 96 := it_F k8 hx.1 hx.2.1
  have v : vp_in (nI j) 12 := vp_in_nI hj (by decide)
  refine ⟨v, nm_e (xi_place hj R hx ?_)⟩
  generalize A + (e - 1) * W = F at *
  rw [nI_clamp (show j < 2 ^ 31 by omega), r7, r3]
  refine nm_r (nI_add _ _) ⟨v, nm_r (pk_sub (by omega)) ⟨13, xt_rightL (by omega) h 12 0 _ _ (by omega) rfl (sg_0 _ _ _ _).symm⟩⟩
theorem yt_L {post : Int32 → SY → Prop} {sk : Nat} (hs : sk ≤ W) (hF : F + W ≤ 96) (hW : W ≤ 13) (h : post (nI (W - sk)) (cn, fp, ck, pf, hr, sp, ix, sc, ye, sz, yj, st, kd, pl, ln, dc, tm, sn, sd, op, ox, oy, oz, sh, sg_put ch 0 0 (W - sk) (fun i => st (F + sk + i)), oth, lw, hg, le, bk, fm, vy)) : ∀ (d k : Nat) (x6 : Int32) (q : Nat → Int32), sk + k + d = W → x6 = nI (sk + k) → q = sg_put ch 0 0 k (fun i => st (F + sk + i)) →
    wY_take_41 post (nI F) (nI sk) (nI W) cn fp ck pf hr sp ix sc ye sz yj (d + 1) x6 st kd pl ln dc tm sn sd op ox oy oz sh q oth lw hg le bk fm vy
  | 0, k, x6, q, hd, h6, hq => by
    subst h6 hq
    have e1 : k = W - sk := by omega
    refine br_t (nI_le (by omega) (by omega)) ?_
    rw [pk_sub hs, e1]
    exact h
  | d + 1, k, x6, q, hd, h6, hq => by
    subst h6 hq
    refine br_f (nI_ge (by omega) (by omega)) ?_
    have e1 : nI (sk + k) - nI sk = nI k := by rw [pk_sub (by omega), Nat.add_sub_cancel_left]
    rw [nI_add, nI_clamp (show F + (sk + k) < 2 ^ 31 by omega), e1, nI_clamp (show k < 2 ^ 31 by omega)]
    refine ⟨vp_in_nI (by omega) (by decide), vp_in_nI (by omega) (by decide), nm_e (nm_e (yt_L hs hF hW h d (k + 1) _ _ (by omega) (nI_1 _) ?_))⟩
    have up := sg_up0 ch k (fun i => st (F + sk + i))
    rw [← up, Nat.add_assoc]
/-- what take answers and leaves: sk is 1 where the sign is passed over -/
theorem yt_take {post : Int32 → SY → Prop} {p1 : Int32} {sk : Nat} (hj : j < 12) (R : it_R kd pl wd tm dg dc ss pc ln sn sd j K A W T D B S L) (hx : it_X ix T e) (hsk : (p1 = 0 ∧ sk = S) ∨ (¬ p1 = 0 ∧ sk = 0)) (h : post (nI (W - sk)) (cn, fp, ck, pf, hr, sp, ix, sc, ye, sz, yj, st, kd, pl, ln, dc, tm, sn, sd, op, ox, oy, oz, sh, sg_put ch 0 0 (W - sk) (fun i => st (A + (e - 1) * W + sk + i)), oth, lw, hg, le, bk, fm, vy)) : wpY_take post (cn, fp, ck, pf, hr, sp, ix, sc, ye, sz, yj, st, kd, pl, ln, dc, tm, sn, sd, op, ox, oy, oz, sh, ch, oth, lw, hg, le, bk, fm, vy) (nI j) p1 := by
  have R0 := R
  obtain ⟨⟨r1, r2, r3, r4, r5, r6, r7, r8⟩, ⟨k1, k2, k3, k4, k5, k6, k7, k8, k9, k10, k11⟩, q1, q2, -⟩ := R0
  have hF : A + (e - 1) * W + W ≤ 96 := it_F k8 hx.1 hx.2.1
  unfold wpY_take
  refine yi_elem hj R hx ?_
  refine yi_spot hj R hx.1 ?_
  refine yi_sign hj R ?_
  generalize A + (e - 1) * W = F at *
  have go : wY_take_28 post (nI j) (nI F) (nI sk) cn fp ck pf hr sp ix sc ye sz yj st kd pl ln dc tm sn sd op ox oy oz sh ch oth lw hg le bk fm vy := by
    unfold wY_take_28
    exact yi_width hj R ⟨W - sk + 1, yt_L (by omega) hF (by omega) h (W - sk) 0 _ _ (by omega) rfl (sg_0 _ _ _ _).symm⟩
  rcases (show S = 0 ∨ S = 1 by omega) with e0 | e0
  · have : sk = 0 := by rcases hsk with z | z <;> omega
    subst this
    rw [e0]
    exact br_t rfl go
  · rw [e0]
    refine br_f (by decide) ?_
    rcases hsk with ⟨z, w⟩ | ⟨z, w⟩
    · rw [w, e0] at go
      exact br_t z go
    · rw [w] at go
      exact br_f z go
theorem pk_uu {f : Nat → Int32} {k : Nat} {x y : Int32} : upd (upd f k x) k y = upd f k y := by
  funext i
  unfold upd
  by_cases h : i = k
  · rw [if_pos h, if_pos h]
  · rw [if_neg h, if_neg h, if_neg h]
theorem xt_digL {post : SX → Prop} (hn : n ≤ 10) (hm : m < 9000000000000000000) (h : post (cn, ck, fp, pg, ob, hr, sp, ix, sz, pf, sc, st, kd, pl, wd, tm, dg, dc, ss, pc, op, ox, oy, oz, ps, jp, oi, pa, pt, sh, sg_put lc 0 0 12 (nd_t m n), rc, dr)) : ∀ (c : Nat) (x5 : Int64) (x7 : Int32) (q : Nat → Int32), c ≤ 12 → x5 = ar_l ((m / 10 ^ (n - c) : Nat) : Int) → x7 = nI c - 1 → q = sg_put lc 0 c 12 (nd_t m n) →
    wX_takeDigits__leftCharacters_65 post (nI n) cn ck fp pg ob hr sp ix sz pf sc (c + 1) x5 x7 st kd pl wd tm dg dc ss pc op ox oy oz ps jp oi pa pt sh q rc dr
  | 0, x5, x7, q, hc, h5, h7, hq => by
    subst h5 h7 hq
    exact br_t (by decide) h
  | c + 1, x5, x7, q, hc, h5, h7, hq => by
    subst h5 h7 hq
    have hq : m / 10 ^ (n - (c + 1)) ≤ m := Nat.div_le_self _ _
    have v : vp_in (nI c) 12 := vp_in_nI (by omega) (by decide)
    have dn := sg_dn0 lc c 12 (nd_t m n) (by omega)
    rw [nI_pred]
    refine br_f (nI_pos (by omega)) ⟨v, ?_⟩
    rw [nI_clamp (show c < 2 ^ 31 by omega), ar_i10 (by omega)]
    refine nm_e ?_
    by_cases hcn : n ≤ c
    · refine br_t (nI_le hcn (by omega)) (nm_e (xt_digL hn hm h c _ _ _ (by omega) ?_ (sr_add _) ?_))
      · rw [show n - (c + 1) = n - c from by omega]
      · rw [← dn]
        unfold nd_t
        rw [if_neg (by omega)]
    · refine br_f (nI_ge (by omega) (by omega)) ⟨by decide, v, nm_e ⟨by decide, nm_e (nm_e (xt_digL hn hm h c _ _ _ (by omega) ?_ (sr_add _) ?_))⟩⟩
      · rw [ar_dn (by omega), Nat.div_div_eq_div_mul, ← Nat.pow_succ, show (n - (c + 1)).succ = n - c from by omega]
      · rw [pk_uu, ← dn]
        have e1 : nd_t m n c = nI (m / 10 ^ (n - (c + 1)) % 10) := by
          unfold nd_t
          rw [if_pos (by omega), show n - 1 - c = n - (c + 1) from by omega]
        rw [e1]
theorem xt_cntL {post : SX → Prop} (hn : nd_P m n) (hm : m < 9000000000000000000) (h : post (cn, ck, fp, pg, ob, hr, sp, ix, sz, pf, sc, st, kd, pl, wd, tm, dg, dc, ss, pc, op, ox, oy, oz, ps, jp, oi, pa, pt, sh, sg_put lc 0 0 12 (nd_t m n), rc, dr)) : ∀ (d i : Nat) (x4 : Int32) (x5 : Int64) (x7 : Int32), i + d = n → x4 = nI i → x5 = ar_l ((m / 10 ^ i : Nat) : Int) → x7 = nI i →
    wX_takeDigits__leftCharacters_22 post (ar_l (m : Int)) cn ck fp pg ob hr sp ix sz pf sc st kd pl wd tm dg dc ss pc op ox oy oz ps jp oi pa pt sh lc rc dr (d + 1) x4 x5 x7
  | 0, i, x4, x5, x7, hd, h4, h5, h7 => by
    subst h4 h5 h7
    obtain ⟨n1, n2, n3, n4⟩ := hn
    have e1 : i = n := by omega
    subst e1
    refine br_f (nI_ge (b := 12) (by omega) (by decide)) (br_f (nI_ne0 (by omega) (by omega)) (br_t ?_ ⟨13, xt_digL n2 hm h 12 _ _ _ (Nat.le_refl _) ?_ (by decide) (sg_0 _ _ _ _).symm⟩))
    · rw [n3]
      decide
    · rw [show i - 12 = 0 from by omega, Nat.pow_zero, Nat.div_one]
  | d + 1, i, x4, x5, x7, hd, h4, h5, h7 => by
    subst h4 h5 h7
    have hn0 := hn
    obtain ⟨n1, n2, n3, n4⟩ := hn0
    have hq : m / 10 ^ i ≤ m := Nat.div_le_self _ _
    have e5 : ar_l ((m / 10 ^ i : Nat) : Int) / 10 = ar_l ((m / 10 ^ (i + 1) : Nat) : Int) := by rw [ar_dn (by omega), Nat.div_div_eq_div_mul, ← Nat.pow_succ]
    have IH := xt_cntL hn hm h d (i + 1) _ _ _ (by omega) (nI_1 i) e5 (nI_1 i)
    refine br_f (nI_ge (b := 12) (by omega) (by decide)) ?_
    by_cases hi : i = 0
    · subst hi
      exact br_t rfl ⟨by decide, nm_e (nm_e (nm_e IH))⟩
    · refine br_f (nI_ne0 (by omega) (by omega)) (br_f ?_ ⟨by decide, nm_e (nm_e (nm_e IH))⟩)
      have := n4 i (by omega) (by omega)
      rw [ar_0, ar_le (ar_nB (by omega)) ar_B0]
      generalize m / 10 ^ i = u at *
      omega
theorem nd_z (z : Int32) : ((0 ≤ z → z.toInt64 = ar_l (z.toInt.natAbs : Int)) ∧ (¬ 0 ≤ z → -z.toInt64 = ar_l (z.toInt.natAbs : Int))) ∧ z.toInt.natAbs ≤ 2147483648 := by
  have hz := ar_zB z
  have h0 : 0 ≤ z ↔ 0 ≤ z.toInt := by rw [Int32.le_iff_toInt_le, show (0 : Int32).toInt = 0 from by decide]
  refine ⟨⟨fun h => ?_, fun h => ?_⟩, by omega⟩
  · rw [h0] at h
    rw [ar_z]
    exact congrArg ar_l (by omega)
  · rw [h0] at h
    rw [ar_z, ar_neg]
    exact congrArg ar_l (by omega)
theorem xt_dig {post : SX → Prop} {z : Int32} (hn : nd_P z.toInt.natAbs n) (h : post (cn, ck, fp, pg, ob, hr, sp, ix, sz, pf, sc, st, kd, pl, wd, tm, dg, dc, ss, pc, op, ox, oy, oz, ps, jp, oi, pa, pt, sh, sg_put lc 0 0 12 (nd_t z.toInt.natAbs n), rc, dr)) : wpX_takeDigits__leftCharacters post (cn, ck, fp, pg, ob, hr, sp, ix, sz, pf, sc, st, kd, pl, wd, tm, dg, dc, ss, pc, op, ox, oy, oz, ps, jp, oi, pa, pt, sh, lc, rc, dr) z := by
  obtain ⟨⟨z1, z2⟩, z3⟩ := nd_z z
  refine br_c (fun c => ?_) (fun c => nm_r (z2 c) ?_)
  · rw [z1 c]
    exact ⟨n + 1, xt_cntL hn (by omega) h n 0 _ _ _ (by omega) rfl (by rw [Nat.pow_zero, Nat.div_one]) rfl⟩
  · exact ⟨n + 1, xt_cntL hn (by omega) h n 0 _ _ _ (by omega) rfl (by rw [Nat.pow_zero, Nat.div_one]) rfl⟩
theorem yt_spL {post : Int32 → SY → Prop} (hn : n ≤ 10) (hm : m < 9000000000000000000) (h : post (nI n) (cn, fp, ck, pf, hr, sp, ix, sc, ye, sz, yj, st, kd, pl, ln, dc, tm, sn, sd, op, ox, oy, oz, sh, sg_put ch 0 0 n (nd_t m n), oth, lw, hg, le, bk, fm, vy)) : ∀ (d i : Nat) (x5 : Int32) (q : Nat → Int32), i + d = n → x5 = nI i → q = sg_put ch 0 0 i (nd_t m n) →
    wY_spell_37 post (ar_l (m : Int)) (nI n) cn fp ck pf hr sp ix sc ye sz yj (d + 1) x5 st kd pl ln dc tm sn sd op ox oy oz sh q oth lw hg le bk fm vy
  | 0, i, x5, q, hd, h5, hq => by
    subst h5 hq
    have e1 : i = n := by omega
    subst e1
    exact br_t (nI_le (Nat.le_refl _) (by omega)) h
  | d + 1, i, x5, q, hd, h5, hq => by
    subst h5 hq
    have e1 : (nI n - 1) - nI i = nI (n - 1 - i) := by
      obtain ⟨c, rfl⟩ : ∃ c, n = c + 1 := ⟨n - 1, by omega⟩
      rw [nI_pred, pk_sub (by omega), Nat.add_sub_cancel]
    have hp : 10 ^ (n - 1 - i) ≤ 10 ^ 18 := ar_ple (by omega)
    have hd2 : m / 10 ^ (n - 1 - i) ≤ m := Nat.div_le_self _ _
    refine br_f (nI_ge (by omega) (by omega)) ?_
    rw [e1]
    refine yw_ten (by omega) ⟨ar_n0 (ar_pp _) (Nat.lt_of_le_of_lt hp (by decide)), by decide, vp_in_nI (by omega) (by decide), ?_⟩
    rw [ar_dv (by omega) (Nat.lt_of_le_of_lt hp (by decide)), ar_i10 (by omega), nI_clamp (show i < 2 ^ 31 by omega)]
    refine nm_e (nm_e (yt_spL hn hm h d (i + 1) _ _ (by omega) (nI_1 i) ?_))
    have up := sg_up0 ch i (nd_t m n)
    rw [← up]
    unfold nd_t
    rw [if_pos (by omega)]
theorem yt_cntL {post : Int32 → SY → Prop} (hn : nd_P m n) (hm : m < 9000000000000000000) (h : post (nI n) (cn, fp, ck, pf, hr, sp, ix, sc, ye, sz, yj, st, kd, pl, ln, dc, tm, sn, sd, op, ox, oy, oz, sh, sg_put ch 0 0 n (nd_t m n), oth, lw, hg, le, bk, fm, vy)) : ∀ (d i : Nat) (x4 : Int32), i + d = n → 1 ≤ i → x4 = nI i →
    wY_spell_16 post (ar_l (m : Int)) cn fp ck pf hr sp ix sc ye sz yj st kd pl ln dc tm sn sd op ox oy oz sh ch oth lw hg le bk fm vy (d + 1) x4
  | 0, i, x4, hd, h1, h4 => by
    subst h4
    obtain ⟨n1, n2, n3, n4⟩ := hn
    have e1 : i = n := by omega
    subst e1
    have hp : 10 ^ i ≤ 10 ^ 18 := ar_ple (by omega)
    refine yw_ten (by omega) ⟨ar_n0 (ar_pp _) (Nat.lt_of_le_of_lt hp (by decide)), ?_⟩
    rw [ar_dv (by omega) (Nat.lt_of_le_of_lt hp (by decide)), n3]
    exact br_t (by decide) ⟨i + 1, yt_spL n2 hm h i 0 _ _ (by omega) rfl (sg_0 _ _ _ _).symm⟩
  | d + 1, i, x4, hd, h1, h4 => by
    subst h4
    have hn0 := hn
    obtain ⟨n1, n2, n3, n4⟩ := hn0
    have hp : 10 ^ i ≤ 10 ^ 18 := ar_ple (by omega)
    have hq : m / 10 ^ i ≤ m := Nat.div_le_self _ _
    refine yw_ten (by omega) ⟨ar_n0 (ar_pp _) (Nat.lt_of_le_of_lt hp (by decide)), ?_⟩
    rw [ar_dv (by omega) (Nat.lt_of_le_of_lt hp (by decide))]
    refine br_f ?_ (nm_e (yt_cntL hn hm h d (i + 1) _ (by omega) (by omega) (nI_1 i)))
    have := n4 i h1 (by omega)
    rw [ar_0, ar_le (ar_nB (by omega)) ar_B0]
    generalize m / 10 ^ i = u at *
    omega
theorem yt_spell {post : Int32 → SY → Prop} {z : Int32} (hn : nd_P z.toInt.natAbs n) (h : post (nI n) (cn, fp, ck, pf, hr, sp, ix, sc, ye, sz, yj, st, kd, pl, ln, dc, tm, sn, sd, op, ox, oy, oz, sh, sg_put ch 0 0 n (nd_t z.toInt.natAbs n), oth, lw, hg, le, bk, fm, vy)) : wpY_spell post (cn, fp, ck, pf, hr, sp, ix, sc, ye, sz, yj, st, kd, pl, ln, dc, tm, sn, sd, op, ox, oy, oz, sh, ch, oth, lw, hg, le, bk, fm, vy) z := by
  obtain ⟨⟨z1, z2⟩, z3⟩ := nd_z z
  have n1 := hn.1
  refine br_c (fun c => ?_) (fun c => nm_r (z2 c) ?_)
  · rw [z1 c]
    exact ⟨n - 1 + 1, yt_cntL hn (by omega) h (n - 1) 1 _ (by omega) (by omega) rfl⟩
  · exact ⟨n - 1 + 1, yt_cntL hn (by omega) h (n - 1) 1 _ (by omega) (by omega) rfl⟩
end
end
section
/-! an operand that is a number or an item; MOVE -/
def od_P (ix : Int32) (st kd pl wd tm dg dc ss pc ln sn sd : Nat → Int32) (x z : Int32) (V : Int) (d : Nat) : Prop :=
  (x = 16 ∧ V = z.toInt ∧ d = 0) ∨ (∃ j K A W T D B S L e, j < 12 ∧ x = nI j ∧ it_R kd pl wd tm dg dc ss pc ln sn sd j K A W T D B S L ∧ it_X ix T e ∧ V = vl_v st K (A + (e - 1) * W) W S ∧ d = B)
theorem vl_nn {st : Nat → Int32} {K F W S : Nat} : (vl_v st K F W S).natAbs = vl_m st K F W S := by
  unfold vl_v
  cases vl_s st K F W S
  · rfl
  · show (-((vl_m st K F W S : Nat) : Int)).natAbs = _
    rw [Int.natAbs_neg]
    rfl
theorem od_b {ix : Int32} {st kd pl wd tm dg dc ss pc ln sn sd : Nat → Int32} {x z : Int32} {V : Int} {d : Nat} (h : od_P ix st kd pl wd tm dg dc ss pc ln sn sd x z V d) : V.natAbs ≤ 2147483648 ∧ d ≤ 9 := by
  rcases h with ⟨-, e1, e2⟩ | ⟨j, K, A, W, T, D, B, S, L, e, -, -, R, -, e1, e2⟩
  · have := ar_zB z
    omega
  · obtain ⟨-, ⟨k1, k2, k3, k4, k5, k6, k7, k8, k9, k10, k11⟩, q1, -, -⟩ := R
    rw [e1, vl_nn]
    have := vl_lt st K (A + (e - 1) * W) W S (fun w => by have := (q1 w).2.1; omega)
    omega
theorem nI_16 {j : Nat} (h : j < 12) : ¬ nI j = 16 := fun z => by have := (nI_eq (b := 16) (by omega) (by decide)).mp z; omega
section
variable {cn ck fp pg ob hr sp ix sz pf sc ye yj : Int32}
variable {st kd pl wd tm dg dc ss pc op ox oy oz ps jp oi pa pt sh lc rc dr ln sn sd ch oth lw hg le bk fm vy : Nat → Int32}
variable {K A W T D B S L e j F M m has N n : Nat} {s : Bool} {V : Int} {x z : Int32} {d : Nat}
theorem xo_val {post : Int64 → Prop} (ok : st_ok st) (O : od_P ix st kd pl wd tm dg dc ss pc ln sn sd x z V d) (h : post (ar_l V)) : wpX_operandValue post (cn, ck, fp, pg, ob, hr, sp, ix, sz, pf, sc, st, kd, pl, wd, tm, dg, dc, ss, pc, op, ox, oy, oz, ps, jp, oi, pa, pt, sh, lc, rc, dr) x z := by
  rcases O with ⟨e0, e1, e2⟩ | ⟨j, K, A, W, T, D, B, S, L, e, hj, e0, R, hx, e1, e2⟩
  · subst e0 e1
    exact br_t rfl h
  · subst e0 e1
    have hF : A + (e - 1) * W + W ≤ 96 := it_F R.2.1.2.2.2.2.2.2.2.1 hx.1 hx.2.1
    exact br_f (nI_16 hj) (xi_place hj R hx (xv_value hj R hF ok h))
theorem xo_dec {post : Int32 → Prop} (O : od_P ix st kd pl wd tm dg dc ss pc ln sn sd x z V d) (h : post (nI d)) : wpX_operandDecimals post (cn, ck, fp, pg, ob, hr, sp, ix, sz, pf, sc, st, kd, pl, wd, tm, dg, dc, ss, pc, op, ox, oy, oz, ps, jp, oi, pa, pt, sh, lc, rc, dr) x := by
  rcases O with ⟨e0, e1, e2⟩ | ⟨j, K, A, W, T, D, B, S, L, e, hj, e0, R, hx, e1, e2⟩
  · subst e0 e2
    exact br_t rfl h
  · subst e0 e2
    exact xi_dec hj R h
/-- an item that is no text takes a value -/
theorem mv_num (ok : st_ok st) (O : od_P ix st kd pl wd tm dg dc ss pc ln sn sd x z V d) (hj : j < 12) (R : it_R kd pl wd tm dg dc ss pc ln sn sd j K A W T D B S L) (hx : it_X ix T e) (hK : K = 1 ∨ K = 3) :
    ∃ st' dr' oth', st_ok st' ∧ (∀ post, post (cn, ck, fp, pg, ob, hr, sp, ix, sz, pf, sc, st', kd, pl, wd, tm, dg, dc, ss, pc, op, ox, oy, oz, ps, jp, oi, pa, pt, sh, lc, rc, dr') → wpX_move post (cn, ck, fp, pg, ob, hr, sp, ix, sz, pf, sc, st, kd, pl, wd, tm, dg, dc, ss, pc, op, ox, oy, oz, ps, jp, oi, pa, pt, sh, lc, rc, dr) x (nI j) z) ∧ (∀ post, post (cn, fp, ck, pf, hr, sp, ix, sc, ye, sz, yj, st', kd, pl, ln, dc, tm, sn, sd, op, ox, oy, oz, sh, ch, oth', lw, hg, le, bk, fm, vy) → wpY_move post (cn, fp, ck, pf, hr, sp, ix, sc, ye, sz, yj, st, kd, pl, ln, dc, tm, sn, sd, op, ox, oy, oz, sh, ch, oth, lw, hg, le, bk, fm, vy) x (nI j) z) := by
  obtain ⟨s, m, e1, e2, e3⟩ := ar_ex V
  obtain ⟨b1, b2⟩ := od_b O
  obtain ⟨st', dr', oth', ok', hX, hY⟩ := sp_pair (cn := cn) (ck := ck) (fp := fp) (pg := pg) (ob := ob) (hr := hr) (sp := sp) (ix := ix) (sz := sz) (pf := pf) (sc := sc) (ye := ye) (yj := yj) (st := st) (kd := kd) (pl := pl) (wd := wd) (tm := tm) (dg := dg) (dc := dc) (ss := ss) (pc := pc) (op := op) (ox := ox) (oy := oy) (oz := oz) (ps := ps) (jp := jp) (oi := oi) (pa := pa) (pt := pt) (sh := sh) (lc := lc) (rc := rc) (dr := dr) (ln := ln) (sn := sn) (sd := sd) (ch := ch) (oth := oth) (lw := lw) (hg := hg) (le := le) (bk := bk) (fm := fm) (vy := vy) (s := s) (m := m) (has := d) hj R hx hK ok (by omega) b2 (fun w => by have := e3.mp w; omega)
  have r1 := R.1.1
  have r6 := R.1.2.2.2.2.2.1
  have k2 := R.2.1.2.1
  rw [← e1] at hX hY
  refine ⟨st', dr', oth', ok', fun post hp => ?_, fun post hp => ?_⟩
  · unfold wpX_move
    refine xi_sort ?_ (fun _ => br_t rfl (xo_val ok O (xo_dec O (hX _ hp))))
    intro w
    obtain ⟨i, hi, ei, w⟩ := w
    rw [nI_eq (by omega) (by omega)] at ei
    subst ei
    rw [r1] at w
    have := (nI_eq (b := 2) (by omega) (by decide)).mp w
    omega
  · refine ⟨vp_in_nI hj (by decide), ?_⟩
    rw [nI_clamp (show j < 2 ^ 31 by omega), r1]
    refine br_f (fun w => by have := (nI_eq (b := 2) (by omega) (by decide)).mp w; omega) ?_
    rcases O with ⟨f0, f1, f2⟩ | ⟨j', K', A', W', T', D', B', S', L', e', hj', f0, R', hx', f1, f2⟩
    · subst f0 f1 f2
      refine br_t rfl ?_
      unfold wY_move_31
      refine yi_elem hj R hx (br_t rfl ?_)
      exact hY _ hp
    · subst f0 f1 f2
      refine br_f (nI_16 hj') (yi_elem hj' R' hx' (yv_value hj' R' hx'.1 hx'.2.1 ok ?_))
      unfold wY_move_31
      refine yi_elem hj R hx (br_f (nI_16 hj') ⟨vp_in_nI hj' (by decide), ?_⟩)
      rw [nI_clamp (show j' < 2 ^ 31 by omega), R'.1.2.2.2.2.2.1]
      exact hY _ hp
theorem mt_xL {post : SX → Prop} {t : Nat → Int32} (hj : j < 12) (hw : wd j = nI W) (hW : W ≤ 12) (hF : F + W ≤ 96) (ht : ∀ i, i < 12 → lc i = t i) (h : post (cn, ck, fp, pg, ob, hr, sp, ix, sz, pf, sc, sg_put st F 0 W t, kd, pl, wd, tm, dg, dc, ss, pc, op, ox, oy, oz, ps, jp, oi, pa, pt, sh, lc, rc, dr)) : ∀ (d i : Nat) (x5 : Int32) (q : Nat → Int32), i + d = W → x5 = nI i → q = sg_put st F 0 i t →
    wX_move_70 post (nI j) (nI F) cn ck fp pg ob hr sp ix sz pf sc (d + 1) x5 q kd pl wd tm dg dc ss pc op ox oy oz ps jp oi pa pt sh lc rc dr
  | 0, i, x5, q, hd, h5, hq => by
    subst h5 hq
    have e1 : i = W := by omega
    subst e1
    refine ⟨vp_in_nI hj (by decide), ?_⟩
    rw [nI_clamp (show j < 2 ^ 31 by omega), hw]
    exact br_t (nI_le (Nat.le_refl _) (by omega)) h
  | d + 1, i, x5, q, hd, h5, hq => by
    subst h5 hq
    refine ⟨vp_in_nI hj (by decide), ?_⟩
    rw [nI_clamp (show j < 2 ^ 31 by omega), hw]
    refine br_f (nI_ge (by omega) (by omega)) ?_
    rw [nI_add, nI_clamp (show F + i < 2 ^ 31 by omega), nI_clamp (show i < 2 ^ 31 by omega), ht i (by omega)]
    exact ⟨vp_in_nI (by omega) (by decide), vp_in_nI (by omega) (by decide), nm_r (sg_up st F 0 i t (by omega)) (nm_e (mt_xL hj hw hW hF ht h d (i + 1) _ _ (by omega) (nI_1 i) rfl))⟩
theorem mt_yL {post : SY → Prop} {t : Nat → Int32} {u : Nat} (hj : j < 12) (hw : ln j = nI W) (hW : W ≤ 12) (hF : F + W ≤ 96) (hu : u < 2 ^ 31) (ht : ∀ i, i < u → ch i = t i) (ht2 : ∀ i, u ≤ i → t i = 10) (h : post (cn, fp, ck, pf, hr, sp, ix, sc, ye, sz, yj, sg_put st F 0 W t, kd, pl, ln, dc, tm, sn, sd, op, ox, oy, oz, sh, ch, oth, lw, hg, le, bk, fm, vy)) : ∀ (d i : Nat) (x6 : Int32) (q : Nat → Int32), i + d = W → x6 = nI i → q = sg_put st F 0 i t →
    wY_move_99 post (nI j) (nI u) (nI F) cn fp ck pf hr sp ix sc ye sz yj (d + 1) x6 q kd pl ln dc tm sn sd op ox oy oz sh ch oth lw hg le bk fm vy
  | 0, i, x5, q, hd, h5, hq => by
    subst h5 hq
    have e1 : i = W := by omega
    subst e1
    refine ⟨vp_in_nI hj (by decide), ?_⟩
    rw [nI_clamp (show j < 2 ^ 31 by omega), hw]
    exact br_t (nI_le (Nat.le_refl _) (by omega)) h
  | d + 1, i, x5, q, hd, h5, hq => by
    subst h5 hq
    refine ⟨vp_in_nI hj (by decide), ?_⟩
    rw [nI_clamp (show j < 2 ^ 31 by omega), hw]
    refine br_f (nI_ge (by omega) (by omega)) ?_
    rw [nI_add, nI_clamp (show F + i < 2 ^ 31 by omega), nI_clamp (show i < 2 ^ 31 by omega)]
    have IH := mt_yL hj hw hW hF hu ht ht2 h d (i + 1) _ _ (by omega) (nI_1 i) rfl
    have up := sg_up st F 0 i t (by omega)
    by_cases c : i < u
    · rw [ht i c]
      exact br_f (nI_ge c hu) ⟨vp_in_nI (by omega) (by decide), vp_in_nI (by omega) (by decide), nm_r up (nm_e IH)⟩
    · rw [ht2 i (by omega)] at up
      exact br_t (nI_le (by omega) (by omega)) ⟨vp_in_nI (by omega) (by decide), nm_r up (nm_e IH)⟩
/-- a text takes characters -/
theorem mv_txt (ok : st_ok st) (O : od_P ix st kd pl wd tm dg dc ss pc ln sn sd x z V d) (hj : j < 12) (R : it_R kd pl wd tm dg dc ss pc ln sn sd j K A W T D B S L) (hx : it_X ix T e) (hK : K = 2) :
    ∃ st' lc' ch', st_ok st' ∧ (∀ post, post (cn, ck, fp, pg, ob, hr, sp, ix, sz, pf, sc, st', kd, pl, wd, tm, dg, dc, ss, pc, op, ox, oy, oz, ps, jp, oi, pa, pt, sh, lc', rc, dr) → wpX_move post (cn, ck, fp, pg, ob, hr, sp, ix, sz, pf, sc, st, kd, pl, wd, tm, dg, dc, ss, pc, op, ox, oy, oz, ps, jp, oi, pa, pt, sh, lc, rc, dr) x (nI j) z) ∧ (∀ post, post (cn, fp, ck, pf, hr, sp, ix, sc, ye, sz, yj, st', kd, pl, ln, dc, tm, sn, sd, op, ox, oy, oz, sh, ch', oth, lw, hg, le, bk, fm, vy) → wpY_move post (cn, fp, ck, pf, hr, sp, ix, sc, ye, sz, yj, st, kd, pl, ln, dc, tm, sn, sd, op, ox, oy, oz, sh, ch, oth, lw, hg, le, bk, fm, vy) x (nI j) z) := by
  have R0 := R
  obtain ⟨⟨r1, r2, r3, r4, r5, r6, r7, r8⟩, ⟨k1, k2, k3, k4, k5, k6, k7, k8, k9, k10, k11⟩, q1, q2, -⟩ := R0
  subst hK
  have qs := q2 (by decide)
  subst qs
  have eW : W = L := k7
  subst eW
  have hF : A + (e - 1) * W + W ≤ 96 := it_F k8 hx.1 hx.2.1
  have hsx : ft_s kd (nI j) 2 := ⟨j, hj, rfl, r1⟩
  -- both sides from behind the taking of characters
  have goX : ∀ (t lc' : Nat → Int32) post, (∀ i, i < 12 → lc' i = t i) → post (cn, ck, fp, pg, ob, hr, sp, ix, sz, pf, sc, sg_put st (A + (e - 1) * W) 0 W t, kd, pl, wd, tm, dg, dc, ss, pc, op, ox, oy, oz, ps, jp, oi, pa, pt, sh, lc', rc, dr) → wX_move_60 post (nI j) cn ck fp pg ob hr sp ix sz pf sc st kd pl wd tm dg dc ss pc op ox oy oz ps jp oi pa pt sh lc' rc dr := fun t lc' post ht hp => by
    unfold wX_move_60
    exact xi_place hj R hx ⟨W + 1, mt_xL hj r3 k6 hF ht hp W 0 _ _ (by omega) rfl (sg_0 _ _ _ _).symm⟩
  have goY : ∀ (t ch' : Nat → Int32) (u : Nat) post, u < 2 ^ 31 → (∀ i, i < u → ch' i = t i) → (∀ i, u ≤ i → t i = 10) → post (cn, fp, ck, pf, hr, sp, ix, sc, ye, sz, yj, sg_put st (A + (e - 1) * W) 0 W t, kd, pl, ln, dc, tm, sn, sd, op, ox, oy, oz, sh, ch', oth, lw, hg, le, bk, fm, vy) → wY_move_82 post (nI j) (nI u) cn fp ck pf hr sp ix sc ye sz yj st kd pl ln dc tm sn sd op ox oy oz sh ch' oth lw hg le bk fm vy := fun t ch' u post hu ht ht2 hp => by
    unfold wY_move_82
    exact yi_elem hj R hx (yi_spot hj R hx.1 ⟨W + 1, mt_yL hj r8 k6 hF hu ht ht2 hp W 0 _ _ (by omega) rfl (sg_0 _ _ _ _).symm⟩)
  have hin : ∀ (f g : Nat → Int32) (h0 : Nat) i, i < h0 → sg_put g 0 0 h0 f i = f i := fun f g h0 i hi => sg_in0 _ _ _ _ (Nat.zero_le _) hi
  rcases O with ⟨f0, f1, f2⟩ | ⟨j', K', A', W', T', D', B', S', L', e', hj', f0, R', hx', f1, f2⟩
  · subst f0
    obtain ⟨n, hn⟩ := nd_ex (m := z.toInt.natAbs) (by have := ar_zB z; omega)
    have n2 := hn.2.1
    refine ⟨sg_put st (A + (e - 1) * W) 0 W (nd_t z.toInt.natAbs n), sg_put lc 0 0 12 (nd_t z.toInt.natAbs n), sg_put ch 0 0 n (nd_t z.toInt.natAbs n), st_okp ok (fun i _ _ => ?_), fun post hp => ?_, fun post hp => ?_⟩
    · unfold nd_t
      by_cases c : i < n
      · rw [if_pos c]
        exact nI_pos (Nat.lt_of_lt_of_le (Nat.mod_lt _ (by decide)) (by decide))
      · rw [if_neg c]; decide
    · unfold wpX_move
      exact xi_sort (fun _ => br_f (by decide) (br_t rfl (xt_dig hn (goX _ _ post (hin _ _ _) hp)))) (fun w => absurd hsx w)
    · refine ⟨vp_in_nI hj (by decide), ?_⟩
      rw [nI_clamp (show j < 2 ^ 31 by omega), r1]
      exact br_t rfl (br_t rfl (yt_spell hn (goY _ _ n post (by omega) (hin _ _ _) (fun i hi => if_neg (by omega)) hp)))
  · subst f0
    have R1 := R'
    obtain ⟨-, ⟨k1', k2', k3', k4', k5', k6', k7', k8', k9', k10', k11'⟩, q1', q2', -⟩ := R1
    refine ⟨sg_put st (A + (e - 1) * W) 0 W (tx_c st (A' + (e' - 1) * W' + S') (W' - S')), sg_put lc 0 0 12 (tx_c st (A' + (e' - 1) * W' + S') (W' - S')), sg_put ch 0 0 (W' - S') (fun i => st (A' + (e' - 1) * W' + S' + i)), st_okp ok (fun i _ _ => ?_), fun post hp => ?_, fun post hp => ?_⟩
    · unfold tx_c
      by_cases c : i < W' - S'
      · rw [if_pos c]; exact ok _
      · rw [if_neg c]; decide
    · unfold wpX_move
      exact xi_sort (fun _ => br_f (by decide) (br_f (nI_16 hj') (xt_left hj' R' hx' (goX _ _ post (hin _ _ _) hp)))) (fun w => absurd hsx w)
    · refine ⟨vp_in_nI hj (by decide), ?_⟩
      rw [nI_clamp (show j < 2 ^ 31 by omega), r1]
      refine br_t rfl (br_f (nI_16 hj') (yt_take hj' R' hx' (Or.inl ⟨rfl, rfl⟩) (goY (tx_c st (A' + (e' - 1) * W' + S') (W' - S')) _ (W' - S') post (by omega) (fun i hi => ?_) (fun i hi => if_neg (by omega)) hp)))
      rw [hin _ _ _ _ hi]
      unfold tx_c
      rw [if_pos hi]
end
end
section
/-! ADD to DIVIDE ROUNDED: compute and reckon -/
theorem nb_0 : narrow .boolean (.int 0) = .int 0 := rfl
theorem nb_1 : narrow .boolean (.int 1) = .int 1 := rfl
theorem fb_0 : fits .boolean (.int 0) = true := rfl
theorem fb_1 : fits .boolean (.int 1) = true := rfl
theorem rd_le (m b : Nat) (r : Bool) : rd_q m b r ≤ m + 1 := by
  unfold rd_q
  have := Nat.div_le_self m b
  split <;> omega
theorem ar_nrm {σ : Bool} {q : Nat} : ar_s σ q = ar_s (σ && decide (0 < q)) q := by
  by_cases h : 0 < q
  · rw [decide_eq_true h, Bool.and_true]
  · have : q = 0 := by omega
    subst this
    rw [ar_s0, ar_s0]
theorem cp_p9 {k : Nat} (h : k ≤ 9) : 10 ^ k ≤ 1000000000 := Nat.pow_le_pow_right (n := 10) (by decide) h
section
variable {cn ck fp pg ob hr sp ix sz pf sc ye yj : Int32}
variable {st kd pl wd tm dg dc ss pc op ox oy oz ps jp oi pa pt sh lc rc dr ln sn sd ch oth lw hg le bk fm vy : Nat → Int32}
variable {K A W T D B S L e j F M m has N n : Nat} {s : Bool} {V : Int} {x z : Int32} {d : Nat}
theorem cp_fin {sE sb : Bool} {mE mb q : Nat} (ok : st_ok st) (hj : j < 12) (R : it_R kd pl wd tm dg dc ss pc ln sn sd j K A W T D B S L) (hx : it_X ix T e) (hK : K = 1) (hE : mE < 9000000000000000000) (hb : mb < 9000000000000000000) (h1 : sE = true → 0 < mE) (h2 : sb = true → 0 < mb) (hq : q < 9000000000000000001) :
    ∃ st' dr' oth' sz', st_ok st' ∧ (sz' = 0 ∨ sz' = 1) ∧ (∀ post, post (cn, ck, fp, pg, ob, hr, sp, ix, sz', pf, sc, st', kd, pl, wd, tm, dg, dc, ss, pc, op, ox, oy, oz, ps, jp, oi, pa, pt, sh, lc, rc, dr') → wX_compute_205 post (nI j) (nI B) (ar_l (ar_s (sE != sb) q)) cn ck fp pg ob hr sp ix sz pf sc st kd pl wd tm dg dc ss pc op ox oy oz ps jp oi pa pt sh lc rc dr) ∧
      (∀ post, post (cn, fp, ck, pf, hr, sp, ix, sc, ye, sz', yj, st', kd, pl, ln, dc, tm, sn, sd, op, ox, oy, oz, sh, ch, oth', lw, hg, le, bk, fm, vy) → wY_reckon_259 post (nI j) (nI B) (ar_l (ar_s sE mE)) (ar_l (ar_s sb mb)) (ar_l (q : Int)) cn fp ck pf hr sp ix sc ye sz yj st kd pl ln dc tm sn sd op ox oy oz sh ch oth lw hg le bk fm vy) := by
  have R0 := R
  obtain ⟨⟨r1, r2, r3, r4, r5, r6, r7, r8⟩, ⟨k1, k2, k3, k4, k5, k6, k7, k8, k9, k10, k11⟩, q1, q2, -⟩ := R0
  subst hK
  obtain ⟨qa, qb, qc, qd⟩ := q1 rfl
  subst qa
  have v : vp_in (nI j) 12 := vp_in_nI hj (by decide)
  have hp : 10 ^ D ≤ 1000000000 := cp_p9 k11
  have hp0 := ar_pp D
  have cj : (nI j).toNatClampNeg = j := nI_clamp (by omega)
  by_cases hc : q < 10 ^ D
  · obtain ⟨st', dr', oth', ok', hX, hY⟩ := sp_pair (cn := cn) (ck := ck) (fp := fp) (pg := pg) (ob := ob) (hr := hr) (sp := sp) (ix := ix) (sz := 0) (pf := pf) (sc := sc) (ye := ye) (yj := yj) (st := st) (kd := kd) (pl := pl) (wd := wd) (tm := tm) (dg := dg) (dc := dc) (ss := ss) (pc := pc) (op := op) (ox := ox) (oy := oy) (oz := oz) (ps := ps) (jp := jp) (oi := oi) (pa := pa) (pt := pt) (sh := sh) (lc := lc) (rc := rc) (dr := dr) (ln := ln) (sn := sn) (sd := sd) (ch := ch) (oth := oth) (lw := lw) (hg := hg) (le := le) (bk := bk) (fm := fm) (vy := vy) (s := (sE != sb) && decide (0 < q)) (m := q) (has := B) hj R hx (Or.inl rfl) ok (by omega) k10 (fun w => by rw [Bool.and_eq_true, decide_eq_true_eq] at w; exact w.2)
    rw [← ar_nrm] at hX hY
    refine ⟨st', dr', oth', 0, ok', Or.inl rfl, fun post hp2 => ⟨v, ?_⟩, fun post hp2 => ⟨v, ?_⟩⟩
    · rw [cj, r5]
      refine xw_ten k11 (br_f ?_ (br_t ?_ ⟨nb_0, fb_0, br_t rfl (hX _ hp2)⟩))
      · rw [ar_le (ar_nB (by omega)) (ar_sB (by omega))]
        cases sE != sb
        · show ¬ ((10 ^ D : Nat) : Int) ≤ (q : Int); omega
        · show ¬ ((10 ^ D : Nat) : Int) ≤ -(q : Int); omega
      · rw [ar_neg, ar_lt ⟨by omega, by omega⟩ (ar_sB (by omega))]
        cases sE != sb
        · show -((10 ^ D : Nat) : Int) < (q : Int); omega
        · show -((10 ^ D : Nat) : Int) < -(q : Int); omega
    · rw [cj, r8]
      refine yw_ten (by omega) (br_t ?_ ⟨nb_0, fb_0, br_t rfl (yi_elem hj R hx ?_)⟩)
      · rw [ar_ltn (by omega) (by omega)]; exact hc
      · have k324 : wY_reckon_324 post (nI B) (ar_l (q : Int)) (rd_b sb) (rd_b sE) (nI e) (nI j) cn fp ck pf hr sp ix sc ye 0 yj st kd pl ln dc tm sn sd op ox oy oz sh ch oth lw hg le bk fm vy := by
          cases sE <;> cases sb
          · exact br_t rfl (hY _ hp2)
          · exact br_f (by decide) (by rw [ar_neg]; exact hY _ hp2)
          · exact br_f (by decide) (by rw [ar_neg]; exact hY _ hp2)
          · exact br_t rfl (hY _ hp2)
        have k312 : wY_reckon_312 post (nI B) (ar_l (ar_s sb mb)) (ar_l (q : Int)) (rd_b sE) (nI e) (nI j) cn fp ck pf hr sp ix sc ye 0 yj st kd pl ln dc tm sn sd op ox oy oz sh ch oth lw hg le bk fm vy := by
          cases sb with
          | false => exact br_t ((ar_pos (by omega) h2).mpr rfl) k324
          | true => exact br_f (fun w => absurd ((ar_pos (by omega) h2).mp w) (by decide)) k324
        cases sE with
        | false => exact br_t ((ar_pos (by omega) h1).mpr rfl) k312
        | true => exact br_f (fun w => absurd ((ar_pos (by omega) h1).mp w) (by decide)) k312
  · refine ⟨st, dr, oth, 1, ok, Or.inr rfl, fun post hp2 => ⟨v, ?_⟩, fun post hp2 => ⟨v, ?_⟩⟩
    · rw [cj, r5]
      have z1 : wX_compute_234 post (nI j) (nI B) (ar_l (ar_s (sE != sb) q)) cn ck fp pg ob hr sp ix sz pf sc st kd pl wd tm dg dc ss pc op ox oy oz ps jp oi pa pt sh lc rc dr := ⟨nb_1, fb_1, br_f (by decide) hp2⟩
      refine xw_ten k11 ?_
      cases hσ : sE != sb with
      | false =>
        rw [hσ] at z1
        refine br_t ?_ z1
        rw [ar_le (ar_nB (by omega)) (ar_sB (by omega))]
        show ((10 ^ D : Nat) : Int) ≤ (q : Int); omega
      | true =>
        rw [hσ] at z1
        refine br_f ?_ (br_f ?_ z1)
        · rw [ar_le (ar_nB (by omega)) (ar_sB (by omega))]
          show ¬ ((10 ^ D : Nat) : Int) ≤ -(q : Int); omega
        · rw [ar_neg, ar_lt ⟨by omega, by omega⟩ (ar_sB (by omega))]
          show ¬ -((10 ^ D : Nat) : Int) < -(q : Int); omega
    · rw [cj, r8]
      refine yw_ten (by omega) (br_f ?_ ⟨nb_1, fb_1, br_f (by decide) hp2⟩)
      rw [ar_ltn (by omega) (by omega)]; exact hc
theorem cp_176 {post : SY → Prop} {sE sb r : Bool} {mE mb : Nat} {y : Int32} {b : Int32} (hE : mE < 4000000000000000000) (hb : mb < 4000000000000000000) (h0 : 0 < mb)
    (h : wY_reckon_259 post y b (ar_l (ar_s sE mE)) (ar_l (ar_s sb mb)) (ar_l ((rd_q mE mb r : Nat) : Int)) cn fp ck pf hr sp ix sc ye sz yj st kd pl ln dc tm sn sd op ox oy oz sh ch oth lw hg le bk fm vy) : wY_reckon_176 post (rd_b r) y b (ar_l (ar_s sE mE)) (ar_l (ar_s sb mb)) cn fp ck pf hr sp ix sc ye sz yj st kd pl ln dc tm sn sd op ox oy oz sh ch oth lw hg le bk fm vy := by
  have hz : ¬ ar_l (ar_s sb mb) = 0 := by
    rw [ar_eq0 (ar_sB (by omega))]
    cases sb with
    | false => exact fun z => absurd (show (mb : Int) = 0 from z) (by omega)
    | true => exact fun z => absurd (show -(mb : Int) = 0 from z) (by omega)
  have hmod : mE % mb < mb := Nat.mod_lt _ h0
  have hd : mE / mb ≤ mE := Nat.div_le_self _ _
  refine br_f hz (ar_ab (by omega) (fun w => wY_reckon_204 post (rd_b r) y b (ar_l (ar_s sE mE)) (ar_l (ar_s sb mb)) w cn fp ck pf hr sp ix sc ye sz yj st kd pl ln dc tm sn sd op ox oy oz sh ch oth lw hg le bk fm vy) ?_)
  refine ar_ab (by omega) (fun w => wY_reckon_221 post (rd_b r) y b (ar_l (ar_s sE mE)) (ar_l (ar_s sb mb)) (ar_l (mE : Int)) w cn fp ck pf hr sp ix sc ye sz yj st kd pl ln dc tm sn sd op ox oy oz sh ch oth lw hg le bk fm vy) ?_
  refine ⟨ar_n0 h0 (by omega), nm_r (ar_dv (by omega) (by omega)) ⟨ar_n0 h0 (by omega), nm_r (ar_rm (by omega) (by omega)) ?_⟩⟩
  unfold rd_q at h
  cases r with
  | false =>
    rw [if_neg (fun z => absurd z.1 (by decide))] at h
    exact br_t rfl h
  | true =>
    refine br_f (by decide) ?_
    have e2 : 2 * ar_l ((mE % mb : Nat) : Int) = ar_l ((2 * (mE % mb) : Nat) : Int) := by
      rw [ar_2, ar_mul]
      rfl
    rw [e2, ar_ltn (by omega) (by omega)]
    by_cases hc : mb ≤ 2 * (mE % mb)
    · rw [if_pos ⟨rfl, hc⟩] at h
      exact br_f (by omega) (nm_r (e' := ar_l ((mE / mb + 1 : Nat) : Int)) (by rw [ar_1, ar_add]; rfl) h)
    · rw [if_neg (fun z => hc z.2)] at h
      exact br_t (by omega) h
theorem cp_nf (b : Bool) : (b != false) = b := by cases b <;> rfl
/-- what comes out of one computation: both sides from their decimals on -/
def cp_O (cn ck fp pg ob hr sp ix sz pf sc ye yj : Int32) (st kd pl wd tm dg dc ss pc op ox oy oz ps jp oi pa pt sh lc rc dr ln sn sd ch oth lw hg le bk fm vy : Nat → Int32) (PX : (SX → Prop) → Prop) (PY : (SY → Prop) → Prop) : Prop :=
  ∃ st' dr' oth' sz', st_ok st' ∧ (sz' = 0 ∨ sz' = 1) ∧ (∀ post : SX → Prop, post (cn, ck, fp, pg, ob, hr, sp, ix, sz', pf, sc, st', kd, pl, wd, tm, dg, dc, ss, pc, op, ox, oy, oz, ps, jp, oi, pa, pt, sh, lc, rc, dr') → PX post) ∧ (∀ post : SY → Prop, post (cn, fp, ck, pf, hr, sp, ix, sc, ye, sz', yj, st', kd, pl, ln, dc, tm, sn, sd, op, ox, oy, oz, sh, ch, oth', lw, hg, le, bk, fm, vy) → PY post)
theorem cp_as {r sub : Bool} {Vy : Int} (ok : st_ok st) (hj : j < 12) (R : it_R kd pl wd tm dg dc ss pc ln sn sd j K A W T D B S L) (hx : it_X ix T e) (hK : K = 1) (hV : V.natAbs ≤ 2147483648) (hVy : Vy.natAbs ≤ 1000000000) (hd : d ≤ 9) :
    cp_O cn ck fp pg ob hr sp ix sz pf sc ye yj st kd pl wd tm dg dc ss pc op ox oy oz ps jp oi pa pt sh lc rc dr ln sn sd ch oth lw hg le bk fm vy (fun post => wX_compute_78 post (nI j) (rd_b r) (if sub = true then 3 else 2) (ar_l Vy) (ar_l V) (nI B) (nI d) cn ck fp pg ob hr sp ix sz pf sc st kd pl wd tm dg dc ss pc op ox oy oz ps jp oi pa pt sh lc rc dr) (fun post => wY_reckon_54 post (if sub = true then 1 else 0) (rd_b r) (nI j) (ar_l V) (ar_l Vy) (nI d) cn fp ck pf hr sp ix sc ye sz yj st kd pl ln dc tm sn sd op ox oy oz sh ch oth lw hg le bk fm vy) := by
  have r6 := R.1.2.2.2.2.2.1
  have k10 := R.2.1.2.2.2.2.2.2.2.2.2.1
  have v : vp_in (nI j) 12 := vp_in_nI hj (by decide)
  have cj : (nI j).toNatClampNeg = j := nI_clamp (by omega)
  obtain ⟨f, hf1, hf2, hf3, hfX, hfY⟩ : ∃ f : Nat, B ≤ f ∧ d ≤ f ∧ f ≤ 9 ∧ (B ≤ d → f = d) ∧ (d ≤ B → f = B) ∧ True := by
    by_cases h : B ≤ d
    · exact ⟨d, h, Nat.le_refl _, hd, fun _ => rfl, fun w => by omega, trivial⟩
    · exact ⟨B, Nat.le_refl _, by omega, k10, fun w => absurd w h, fun _ => rfl, trivial⟩
  have hP := cp_p9 (show f - B ≤ 9 by omega)
  have hQ := cp_p9 (show f - d ≤ 9 by omega)
  have hP0 := ar_pp (f - B)
  obtain ⟨E, hE⟩ : ∃ E : Int, E = Vy * ((10 ^ (f - B) : Nat) : Int) + (if sub = true then -V else V) * ((10 ^ (f - d) : Nat) : Int) := ⟨_, rfl⟩
  have hEb : E.natAbs < 3900000000000000000 := by
    have h1 : (Vy * ((10 ^ (f - B) : Nat) : Int)).natAbs ≤ 1000000000 * 1000000000 := by
      rw [Int.natAbs_mul, Int.natAbs_natCast]
      exact Nat.mul_le_mul hVy hP
    have h2 : ((if sub = true then -V else V) * ((10 ^ (f - d) : Nat) : Int)).natAbs ≤ 2147483648 * 1000000000 := by
      rw [Int.natAbs_mul, Int.natAbs_natCast]
      refine Nat.mul_le_mul ?_ hQ
      cases sub
      · exact hV
      · show (-V).natAbs ≤ _
        rw [Int.natAbs_neg]
        exact hV
    have h3 := Int.natAbs_add_le (Vy * ((10 ^ (f - B) : Nat) : Int)) ((if sub = true then -V else V) * ((10 ^ (f - d) : Nat) : Int))
    rw [← hE] at h3
    omega
  obtain ⟨sE, mE, e1, e2, e3⟩ := ar_ex E
  have hq := rd_le mE (10 ^ (f - B)) r
  obtain ⟨st', dr', oth', sz', ok', hz, hX, hY⟩ := cp_fin (cn := cn) (ck := ck) (fp := fp) (pg := pg) (ob := ob) (hr := hr) (sp := sp) (ix := ix) (sz := sz) (pf := pf) (sc := sc) (ye := ye) (yj := yj) (st := st) (kd := kd) (pl := pl) (wd := wd) (tm := tm) (dg := dg) (dc := dc) (ss := ss) (pc := pc) (op := op) (ox := ox) (oy := oy) (oz := oz) (ps := ps) (jp := jp) (oi := oi) (pa := pa) (pt := pt) (sh := sh) (lc := lc) (rc := rc) (dr := dr) (ln := ln) (sn := sn) (sd := sd) (ch := ch) (oth := oth) (lw := lw) (hg := hg) (le := le) (bk := bk) (fm := fm) (vy := vy) (sE := sE) (sb := false) (mE := mE) (mb := 10 ^ (f - B)) (q := rd_q mE (10 ^ (f - B)) r) ok hj R hx hK (by omega) (by omega) (fun w => by have := e3.mp w; omega) (fun w => absurd w (by decide)) (by omega)
  refine ⟨st', dr', oth', sz', ok', hz, fun post hp => ?_, fun post hp => ?_⟩
  · have h189 : wX_compute_189 post (nI j) (rd_b r) (nI B) (nI f) (ar_l E) cn ck fp pg ob hr sp ix sz pf sc st kd pl wd tm dg dc ss pc op ox oy oz ps jp oi pa pt sh lc rc dr := by
      unfold wX_compute_189
      rw [pk_sub hf1, e1]
      refine xw_short (by omega) (by omega) ?_
      have := hX post hp
      rwa [cp_nf] at this
    have h144 : wX_compute_144 post (nI j) (rd_b r) (if sub = true then 3 else 2) (ar_l Vy) (ar_l V) (nI B) (nI d) (nI f) cn ck fp pg ob hr sp ix sz pf sc st kd pl wd tm dg dc ss pc op ox oy oz ps jp oi pa pt sh lc rc dr := by
      unfold wX_compute_144
      rw [pk_sub hf1, pk_sub hf2]
      refine xw_len (by omega) (xw_len (by omega) ?_)
      cases sub with
      | false =>
        refine br_f (by decide) ?_
        rw [ar_add]
        rw [hE] at h189
        exact h189
      | true =>
        refine br_t rfl ?_
        rw [ar_sub]
        have e9 : Vy * ((10 ^ (f - B) : Nat) : Int) - V * ((10 ^ (f - d) : Nat) : Int) = E := by
          rw [hE, Int.sub_eq_add_neg, ← Int.neg_mul]
          rfl
        rw [e9]
        exact h189
    have go : ∀ c : Int32, c = 3 ∨ c = 2 → wX_compute_144 post (nI j) (rd_b r) c (ar_l Vy) (ar_l V) (nI B) (nI d) (nI f) cn ck fp pg ob hr sp ix sz pf sc st kd pl wd tm dg dc ss pc op ox oy oz ps jp oi pa pt sh lc rc dr → wX_compute_78 post (nI j) (rd_b r) c (ar_l Vy) (ar_l V) (nI B) (nI d) cn ck fp pg ob hr sp ix sz pf sc st kd pl wd tm dg dc ss pc op ox oy oz ps jp oi pa pt sh lc rc dr := by
      intro c hc h
      refine br_f (by rcases hc with rfl | rfl <;> decide) (br_f (by rcases hc with rfl | rfl <;> decide) ?_)
      by_cases hBd : B ≤ d
      · rw [hfX hBd] at h
        exact br_t (nI_le hBd (by omega)) h
      · rw [hfY.1 (by omega)] at h
        exact br_f (nI_ge (by omega) (by omega)) h
    refine go _ ?_ h144
    cases sub
    · exact Or.inr rfl
    · exact Or.inl rfl
  · have h115 : ∀ a' : Int, a' = (if sub = true then -V else V) → wY_reckon_115 post (rd_b r) (nI j) (nI d) (nI B) (nI f) (ar_l a') (ar_l (Vy * ((10 ^ (f - B) : Nat) : Int))) cn fp ck pf hr sp ix sc ye sz yj st kd pl ln dc tm sn sd op ox oy oz sh ch oth lw hg le bk fm vy := by
      intro a' ea
      unfold wY_reckon_115
      rw [pk_sub hf2, pk_sub hf1]
      refine yw_ten (by omega) (nm_r (e' := ar_l E) ?_ (yw_ten (by omega) ?_))
      · rw [ar_mul, ar_add, hE, ea]
      · rw [e1]
        exact cp_176 (sb := false) (by omega) (by omega) hP0 (hY post hp)
    have h79 : wY_reckon_79 post (if sub = true then 1 else 0) (rd_b r) (nI j) (ar_l V) (ar_l Vy) (nI d) (nI B) (nI f) cn fp ck pf hr sp ix sc ye sz yj st kd pl ln dc tm sn sd op ox oy oz sh ch oth lw hg le bk fm vy := by
      cases sub with
      | false =>
        refine br_f (by decide) ?_
        rw [pk_sub hf1]
        refine yw_ten (by omega) (br_t rfl ?_)
        rw [ar_mul]
        exact h115 V rfl
      | true =>
        refine br_f (by decide) ?_
        rw [pk_sub hf1]
        refine yw_ten (by omega) (br_f (by decide) ?_)
        rw [ar_mul, ar_neg]
        exact h115 (-V) rfl
    refine ⟨v, ?_⟩
    rw [cj, r6]
    refine nm_e ?_
    by_cases hBd : d ≤ B
    · rw [hfY.1 hBd] at h79
      exact br_t (nI_le hBd (by omega)) h79
    · rw [hfX (by omega)] at h79
      exact br_f (nI_ge (by omega) (by omega)) h79
theorem cp_mul {r : Bool} {Vy : Int} (ok : st_ok st) (hj : j < 12) (R : it_R kd pl wd tm dg dc ss pc ln sn sd j K A W T D B S L) (hx : it_X ix T e) (hK : K = 1) (hV : V.natAbs ≤ 2147483648) (hVy : Vy.natAbs ≤ 1000000000) (hd : d ≤ 9) :
    cp_O cn ck fp pg ob hr sp ix sz pf sc ye yj st kd pl wd tm dg dc ss pc op ox oy oz ps jp oi pa pt sh lc rc dr ln sn sd ch oth lw hg le bk fm vy (fun post => wX_compute_78 post (nI j) (rd_b r) 4 (ar_l Vy) (ar_l V) (nI B) (nI d) cn ck fp pg ob hr sp ix sz pf sc st kd pl wd tm dg dc ss pc op ox oy oz ps jp oi pa pt sh lc rc dr) (fun post => wY_reckon_54 post 2 (rd_b r) (nI j) (ar_l V) (ar_l Vy) (nI d) cn fp ck pf hr sp ix sc ye sz yj st kd pl ln dc tm sn sd op ox oy oz sh ch oth lw hg le bk fm vy) := by
  have r6 := R.1.2.2.2.2.2.1
  have v : vp_in (nI j) 12 := vp_in_nI hj (by decide)
  have cj : (nI j).toNatClampNeg = j := nI_clamp (by omega)
  have hP := cp_p9 hd
  have hEb : (Vy * V).natAbs ≤ 1000000000 * 2147483648 := by
    rw [Int.natAbs_mul]
    exact Nat.mul_le_mul hVy hV
  obtain ⟨sE, mE, e1, e2, e3⟩ := ar_ex (Vy * V)
  have hq := rd_le mE (10 ^ d) r
  obtain ⟨st', dr', oth', sz', ok', hz, hX, hY⟩ := cp_fin (cn := cn) (ck := ck) (fp := fp) (pg := pg) (ob := ob) (hr := hr) (sp := sp) (ix := ix) (sz := sz) (pf := pf) (sc := sc) (ye := ye) (yj := yj) (st := st) (kd := kd) (pl := pl) (wd := wd) (tm := tm) (dg := dg) (dc := dc) (ss := ss) (pc := pc) (op := op) (ox := ox) (oy := oy) (oz := oz) (ps := ps) (jp := jp) (oi := oi) (pa := pa) (pt := pt) (sh := sh) (lc := lc) (rc := rc) (dr := dr) (ln := ln) (sn := sn) (sd := sd) (ch := ch) (oth := oth) (lw := lw) (hg := hg) (le := le) (bk := bk) (fm := fm) (vy := vy) (sE := sE) (sb := false) (mE := mE) (mb := 10 ^ d) (q := rd_q mE (10 ^ d) r) ok hj R hx hK (by omega) (by omega) (fun w => by have := e3.mp w; omega) (fun w => absurd w (by decide)) (by omega)
  refine ⟨st', dr', oth', sz', ok', hz, fun post hp => ?_, fun post hp => ⟨v, ?_⟩⟩
  · refine br_t rfl ?_
    rw [ar_mul, e1]
    refine xw_short hd (by omega) ?_
    have := hX post hp
    rwa [cp_nf] at this
  · rw [cj, r6]
    have h79 : ∀ f : Int32, wY_reckon_79 post 2 (rd_b r) (nI j) (ar_l V) (ar_l Vy) (nI d) (nI B) f cn fp ck pf hr sp ix sc ye sz yj st kd pl ln dc tm sn sd op ox oy oz sh ch oth lw hg le bk fm vy := by
      intro f
      refine br_t (by decide) (br_t rfl (nm_r (e' := ar_l (ar_s sE mE)) (by rw [ar_mul, e1]) (yw_ten (by omega) ?_)))
      exact cp_176 (sb := false) (by omega) (by omega) (ar_pp d) (hY post hp)
    exact nm_e (br_c (fun _ => h79 _) (fun _ => h79 _))
theorem cp_div {r : Bool} {Vy : Int} (ok : st_ok st) (hj : j < 12) (R : it_R kd pl wd tm dg dc ss pc ln sn sd j K A W T D B S L) (hx : it_X ix T e) (hK : K = 1) (hV : V.natAbs ≤ 2147483648) (hVy : Vy.natAbs ≤ 1000000000) (hd : d ≤ 9) (hV0 : V ≠ 0) :
    cp_O cn ck fp pg ob hr sp ix sz pf sc ye yj st kd pl wd tm dg dc ss pc op ox oy oz ps jp oi pa pt sh lc rc dr ln sn sd ch oth lw hg le bk fm vy (fun post => wX_compute_78 post (nI j) (rd_b r) 5 (ar_l Vy) (ar_l V) (nI B) (nI d) cn ck fp pg ob hr sp ix sz pf sc st kd pl wd tm dg dc ss pc op ox oy oz ps jp oi pa pt sh lc rc dr) (fun post => wY_reckon_54 post 3 (rd_b r) (nI j) (ar_l V) (ar_l Vy) (nI d) cn fp ck pf hr sp ix sc ye sz yj st kd pl ln dc tm sn sd op ox oy oz sh ch oth lw hg le bk fm vy) := by
  have r6 := R.1.2.2.2.2.2.1
  have v : vp_in (nI j) 12 := vp_in_nI hj (by decide)
  have cj : (nI j).toNatClampNeg = j := nI_clamp (by omega)
  have hP := cp_p9 hd
  have hEb : (Vy * ((10 ^ d : Nat) : Int)).natAbs ≤ 1000000000 * 1000000000 := by
    rw [Int.natAbs_mul, Int.natAbs_natCast]
    exact Nat.mul_le_mul hVy hP
  obtain ⟨sE, mE, e1, e2, e3⟩ := ar_ex (Vy * ((10 ^ d : Nat) : Int))
  obtain ⟨sb, mb, g1, g2, g3⟩ := ar_ex V
  have hq := rd_le mE mb r
  obtain ⟨st', dr', oth', sz', ok', hz, hX, hY⟩ := cp_fin (cn := cn) (ck := ck) (fp := fp) (pg := pg) (ob := ob) (hr := hr) (sp := sp) (ix := ix) (sz := sz) (pf := pf) (sc := sc) (ye := ye) (yj := yj) (st := st) (kd := kd) (pl := pl) (wd := wd) (tm := tm) (dg := dg) (dc := dc) (ss := ss) (pc := pc) (op := op) (ox := ox) (oy := oy) (oz := oz) (ps := ps) (jp := jp) (oi := oi) (pa := pa) (pt := pt) (sh := sh) (lc := lc) (rc := rc) (dr := dr) (ln := ln) (sn := sn) (sd := sd) (ch := ch) (oth := oth) (lw := lw) (hg := hg) (le := le) (bk := bk) (fm := fm) (vy := vy) (sE := sE) (sb := sb) (mE := mE) (mb := mb) (q := rd_q mE mb r) ok hj R hx hK (by omega) (by omega) (fun w => by have := e3.mp w; omega) (fun w => by have := g3.mp w; omega) (by omega)
  refine ⟨st', dr', oth', sz', ok', hz, fun post hp => ?_, fun post hp => ⟨v, ?_⟩⟩
  · refine br_f (by decide) (br_t rfl (xw_len hd ?_))
    rw [e1, g1]
    exact xw_quot (by omega) (by omega) (by omega) (fun w => by have := e3.mp w; omega) (hX post hp)
  · rw [cj, r6]
    have h79 : ∀ f : Int32, wY_reckon_79 post 3 (rd_b r) (nI j) (ar_l V) (ar_l Vy) (nI d) (nI B) f cn fp ck pf hr sp ix sc ye sz yj st kd pl ln dc tm sn sd op ox oy oz sh ch oth lw hg le bk fm vy := by
      intro f
      refine br_t (by decide) (br_f (by decide) (yw_ten (by omega) (nm_r (e' := ar_l (ar_s sE mE)) (by rw [ar_mul, e1]) ?_)))
      rw [g1]
      exact cp_176 (by omega) (by omega) (by omega) (hY post hp)
    exact nm_e (br_c (fun _ => h79 _) (fun _ => h79 _))
end
end
section
/-! DISPLAY, TALLY, SET INDEX, NUMERIC and comparing -/
def dp_f (sh : Nat → Int32) (c : Nat) (st : Nat → Int32) (F : Nat) : Nat → Nat → Int32
  | 0 => sh
  | i + 1 => if c + i < 96 then upd (dp_f sh c st F i) (c + i) (st (F + i)) else dp_f sh c st F i
section
variable {cn ck fp pg ob hr sp ix sz pf sc ye yj : Int32}
variable {st kd pl wd tm dg dc ss pc op ox oy oz ps jp oi pa pt sh lc rc dr ln sn sd ch oth lw hg le bk fm vy : Nat → Int32}
variable {K A W T D B S L e j F M m has N n c : Nat} {s : Bool} {V : Int} {x z : Int32} {d : Nat}
theorem dp_xL {post : SX → Prop} (hj : j < 12) (hw : wd j = nI W) (hF : F + W ≤ 96) (hc : c < 1000000) (h : post (cn, ck, fp, pg, ob, hr, sp, ix, sz, pf, nI (c + W), st, kd, pl, wd, tm, dg, dc, ss, pc, op, ox, oy, oz, ps, jp, oi, pa, pt, dp_f sh c st F W, lc, rc, dr)) : ∀ (d i : Nat) (x3 f : Int32) (q : Nat → Int32), i + d = W → x3 = nI i → f = nI (c + i) → q = dp_f sh c st F i →
    wX_display_15 post (nI j) (nI F) cn ck fp pg ob hr sp ix sz pf (d + 1) x3 f st kd pl wd tm dg dc ss pc op ox oy oz ps jp oi pa pt q lc rc dr
  | 0, i, x3, f, q, hd, h3, hf, hq => by
    subst h3 hf hq
    have e1 : i = W := by omega
    subst e1
    refine ⟨vp_in_nI hj (by decide), ?_⟩
    rw [nI_clamp (show j < 2 ^ 31 by omega), hw]
    exact br_t (nI_le (Nat.le_refl _) (by omega)) h
  | d + 1, i, x3, f, q, hd, h3, hf, hq => by
    subst h3 hf hq
    refine ⟨vp_in_nI hj (by decide), ?_⟩
    rw [nI_clamp (show j < 2 ^ 31 by omega), hw]
    refine br_f (nI_ge (by omega) (by omega)) ?_
    have e2 : dp_f sh c st F (i + 1) = if c + i < 96 then upd (dp_f sh c st F i) (c + i) (st (F + i)) else dp_f sh c st F i := rfl
    have go : ∀ q' : Nat → Int32, q' = dp_f sh c st F (i + 1) → wX_display_51 post (wX_display_15 post (nI j) (nI F) cn ck fp pg ob hr sp ix sz pf (d + 1)) (nI j) (nI F) (nI i) cn ck fp pg ob hr sp ix sz pf (nI (c + i)) st kd pl wd tm dg dc ss pc op ox oy oz ps jp oi pa pt q' lc rc dr := fun q' eq =>
      nm_e (nm_e (dp_xL hj hw hF hc h d (i + 1) _ _ _ (by omega) (nI_1 i) (nI_1 _) eq))
    by_cases h9 : c + i < 96
    · rw [if_pos h9] at e2
      refine br_f (nI_ge (b := 96) h9 (by decide)) ?_
      rw [nI_add, nI_clamp (show F + i < 2 ^ 31 by omega), nI_clamp (show c + i < 2 ^ 31 by omega)]
      exact ⟨vp_in_nI (by omega) (by decide), vp_in_nI h9 (by decide), nm_e (go _ e2.symm)⟩
    · rw [if_neg h9] at e2
      exact br_t (nI_le (a := 96) (by omega) (by omega)) (go _ e2.symm)
theorem dp_yL {post : SY → Prop} (hW : W ≤ 12) (hc : c < 1000000) (hch : ∀ i, i < W → ch i = st (F + i)) (h : post (cn, fp, ck, pf, hr, sp, ix, nI (c + W), ye, sz, yj, st, kd, pl, ln, dc, tm, sn, sd, op, ox, oy, oz, dp_f sh c st F W, ch, oth, lw, hg, le, bk, fm, vy)) : ∀ (d i : Nat) (x3 f : Int32) (q : Nat → Int32), i + d = W → x3 = nI i → f = nI (c + i) → q = dp_f sh c st F i →
    wY_display_9 post (nI W) cn fp ck pf hr sp ix ye sz yj (d + 1) x3 f st kd pl ln dc tm sn sd op ox oy oz q ch oth lw hg le bk fm vy
  | 0, i, x3, f, q, hd, h3, hf, hq => by
    subst h3 hf hq
    have e1 : i = W := by omega
    subst e1
    exact br_t (nI_le (Nat.le_refl _) (by omega)) h
  | d + 1, i, x3, f, q, hd, h3, hf, hq => by
    subst h3 hf hq
    refine br_f (nI_ge (by omega) (by omega)) ?_
    have e2 : dp_f sh c st F (i + 1) = if c + i < 96 then upd (dp_f sh c st F i) (c + i) (st (F + i)) else dp_f sh c st F i := rfl
    have go : ∀ q' : Nat → Int32, q' = dp_f sh c st F (i + 1) → wY_display_38 post (wY_display_9 post (nI W) cn fp ck pf hr sp ix ye sz yj (d + 1)) (nI W) (nI i) cn fp ck pf hr sp ix (nI (c + i)) ye sz yj st kd pl ln dc tm sn sd op ox oy oz q' ch oth lw hg le bk fm vy := fun q' eq =>
      nm_e (nm_e (dp_yL hW hc hch h d (i + 1) _ _ _ (by omega) (nI_1 i) (nI_1 _) eq))
    by_cases h9 : c + i < 96
    · rw [if_pos h9] at e2
      refine br_f (nI_ge (b := 96) h9 (by decide)) ?_
      rw [nI_clamp (show i < 2 ^ 31 by omega), nI_clamp (show c + i < 2 ^ 31 by omega), hch i (by omega)]
      exact ⟨vp_in_nI (by omega) (by decide), vp_in_nI h9 (by decide), nm_e (go _ e2.symm)⟩
    · rw [if_neg h9] at e2
      exact br_t (nI_le (a := 96) (by omega) (by omega)) (go _ e2.symm)
theorem it_W12 (R : it_R kd pl wd tm dg dc ss pc ln sn sd j K A W T D B S L) : W ≤ 12 := by
  obtain ⟨-, ⟨k1, k2, k3, k4, k5, k6, k7, k8, k9, k10, k11⟩, q1, q2, -⟩ := R
  by_cases h : K = 1
  · have := (q1 h).2.1; omega
  · have := q2 h; omega
theorem dp_pair (hj : j < 12) (R : it_R kd pl wd tm dg dc ss pc ln sn sd j K A W T D B S L) (hx : it_X ix T e) (hc : c < 1000000) :
    (∀ post, post (cn, ck, fp, pg, ob, hr, sp, ix, sz, pf, nI (c + W), st, kd, pl, wd, tm, dg, dc, ss, pc, op, ox, oy, oz, ps, jp, oi, pa, pt, dp_f sh c st (A + (e - 1) * W) W, lc, rc, dr) → wpX_display post (cn, ck, fp, pg, ob, hr, sp, ix, sz, pf, nI c, st, kd, pl, wd, tm, dg, dc, ss, pc, op, ox, oy, oz, ps, jp, oi, pa, pt, sh, lc, rc, dr) (nI j)) ∧
    (∀ post, post (cn, fp, ck, pf, hr, sp, ix, nI (c + W), ye, sz, yj, st, kd, pl, ln, dc, tm, sn, sd, op, ox, oy, oz, dp_f sh c st (A + (e - 1) * W) W, sg_put ch 0 0 W (fun i => st (A + (e - 1) * W + 0 + i)), oth, lw, hg, le, bk, fm, vy) → wpY_display post (cn, fp, ck, pf, hr, sp, ix, nI c, ye, sz, yj, st, kd, pl, ln, dc, tm, sn, sd, op, ox, oy, oz, sh, ch, oth, lw, hg, le, bk, fm, vy) (nI j)) := by
  have hF : A + (e - 1) * W + W ≤ 96 := it_F R.2.1.2.2.2.2.2.2.2.1 hx.1 hx.2.1
  have hW := it_W12 R
  refine ⟨fun post hp => br_f (nI_16 hj) (xi_place hj R hx ⟨W + 1, dp_xL hj R.1.2.2.1 hF hc hp W 0 _ _ _ (by omega) rfl rfl rfl⟩), fun post hp => ?_⟩
  unfold wpY_display
  refine yt_take (sk := 0) hj R hx (Or.inr ⟨by decide, rfl⟩) ?_
  exact ⟨W + 1, dp_yL hW hc (fun i hi => by rw [sg_in0 _ _ _ _ (Nat.zero_le _) hi, Nat.add_zero]) hp W 0 _ _ _ (by omega) rfl rfl rfl⟩
theorem ty_xL {post : SX → Prop} {y : Int32} (hj : j < 12) (hw : wd j = nI W) (hF : F + W ≤ 96) (h : wpX_store (fun u => match u with | (cn, ck, fp, pg, ob, hr, sp, ix, sz, pf, sc, st, kd, pl, wd, tm, dg, dc, ss, pc, op, ox, oy, oz, ps, jp, oi, pa, pt, sh, lc, rc, dr) => post (cn, ck, fp, pg, ob, hr, sp, ix, sz, pf, sc, st, kd, pl, wd, tm, dg, dc, ss, pc, op, ox, oy, oz, ps, jp, oi, pa, pt, sh, lc, rc, dr)) (cn, ck, fp, pg, ob, hr, sp, ix, sz, pf, sc, st, kd, pl, wd, tm, dg, dc, ss, pc, op, ox, oy, oz, ps, jp, oi, pa, pt, sh, lc, rc, dr) y (ar_l ((tl_c st F z W : Nat) : Int)) 0) : ∀ (d i : Nat) (x5 x6 : Int32), i + d = W → x5 = nI (tl_c st F z i) → x6 = nI i →
    wX_tally_13 post (nI j) y z (nI F) cn ck fp pg ob hr sp ix sz pf sc st kd pl wd tm dg dc ss pc op ox oy oz ps jp oi pa pt sh lc rc dr (d + 1) x5 x6
  | 0, i, x5, x6, hd, h5, h6 => by
    subst h5 h6
    have e1 : i = W := by omega
    subst e1
    have hl := tl_le st F z i
    refine ⟨vp_in_nI hj (by decide), ?_⟩
    rw [nI_clamp (show j < 2 ^ 31 by omega), hw, nI_l (by omega), ar_N]
    exact br_t (nI_le (Nat.le_refl _) (by omega)) h
  | d + 1, i, x5, x6, hd, h5, h6 => by
    subst h5 h6
    refine ⟨vp_in_nI hj (by decide), ?_⟩
    rw [nI_clamp (show j < 2 ^ 31 by omega), hw]
    refine br_f (nI_ge (by omega) (by omega)) ?_
    rw [nI_add, nI_clamp (show F + i < 2 ^ 31 by omega)]
    refine ⟨vp_in_nI (by omega) (by decide), br_c (fun w => nm_e (nm_e (ty_xL hj hw hF h d (i + 1) _ _ (by omega) (by rw [tl_s w]; exact nI_1 _) (nI_1 i)))) (fun w => nm_e (ty_xL hj hw hF h d (i + 1) _ _ (by omega) (by rw [tl_n w]) (nI_1 i)))⟩
theorem ty_yL {post : SY → Prop} {y : Int32} (hW : W ≤ 12) (hch : ∀ i, i < W → ch i = st (F + i)) (h : wpY_element (fun r => wpY_store (fun u => match u with | (cn, fp, ck, pf, hr, sp, ix, sc, ye, sz, yj, st, kd, pl, ln, dc, tm, sn, sd, op, ox, oy, oz, sh, ch, oth, lw, hg, le, bk, fm, vy) => post (cn, fp, ck, pf, hr, sp, ix, sc, ye, sz, yj, st, kd, pl, ln, dc, tm, sn, sd, op, ox, oy, oz, sh, ch, oth, lw, hg, le, bk, fm, vy)) (cn, fp, ck, pf, hr, sp, ix, sc, ye, sz, yj, st, kd, pl, ln, dc, tm, sn, sd, op, ox, oy, oz, sh, ch, oth, lw, hg, le, bk, fm, vy) y r (ar_l ((tl_c st F z W : Nat) : Int)) 0) (cn, fp, ck, pf, hr, sp, ix, sc, ye, sz, yj, st, kd, pl, ln, dc, tm, sn, sd, op, ox, oy, oz, sh, ch, oth, lw, hg, le, bk, fm, vy) y) : ∀ (d i : Nat) (x5 x6 : Int32), i + d = W → x5 = nI (tl_c st F z i) → x6 = nI i →
    wY_tally_14 post y z (nI W) cn fp ck pf hr sp ix sc ye sz yj st kd pl ln dc tm sn sd op ox oy oz sh ch oth lw hg le bk fm vy (d + 1) x5 x6
  | 0, i, x5, x6, hd, h5, h6 => by
    subst h5 h6
    have e1 : i = W := by omega
    subst e1
    have hl := tl_le st F z i
    refine br_t (nI_le (Nat.le_refl _) (by omega)) ?_
    rw [nI_l (by omega), ar_N]
    exact h
  | d + 1, i, x5, x6, hd, h5, h6 => by
    subst h5 h6
    refine br_f (nI_ge (by omega) (by omega)) ?_
    rw [nI_clamp (show i < 2 ^ 31 by omega), hch i (by omega)]
    refine ⟨vp_in_nI (by omega) (by decide), br_c (fun w => nm_e (nm_e (ty_yL hW hch h d (i + 1) _ _ (by omega) (by rw [tl_s w]; exact nI_1 _) (nI_1 i)))) (fun w => nm_e (ty_yL hW hch h d (i + 1) _ _ (by omega) (by rw [tl_n w]) (nI_1 i)))⟩
theorem ty_pair {j' K' A' W' T' D' B' S' L' e' : Nat} (ok : st_ok st) (hj : j < 12) (R : it_R kd pl wd tm dg dc ss pc ln sn sd j K A W T D B S L) (hx : it_X ix T e) (hj' : j' < 12) (R' : it_R kd pl wd tm dg dc ss pc ln sn sd j' K' A' W' T' D' B' S' L') (hx' : it_X ix T' e') (hK : K' = 1) :
    ∃ st' dr' oth' ch', st_ok st' ∧ (∀ post, post (cn, ck, fp, pg, ob, hr, sp, ix, sz, pf, sc, st', kd, pl, wd, tm, dg, dc, ss, pc, op, ox, oy, oz, ps, jp, oi, pa, pt, sh, lc, rc, dr') → wpX_tally post (cn, ck, fp, pg, ob, hr, sp, ix, sz, pf, sc, st, kd, pl, wd, tm, dg, dc, ss, pc, op, ox, oy, oz, ps, jp, oi, pa, pt, sh, lc, rc, dr) (nI j) (nI j') z) ∧ (∀ post, post (cn, fp, ck, pf, hr, sp, ix, sc, ye, sz, yj, st', kd, pl, ln, dc, tm, sn, sd, op, ox, oy, oz, sh, ch', oth', lw, hg, le, bk, fm, vy) → wpY_tally post (cn, fp, ck, pf, hr, sp, ix, sc, ye, sz, yj, st, kd, pl, ln, dc, tm, sn, sd, op, ox, oy, oz, sh, ch, oth, lw, hg, le, bk, fm, vy) (nI j) (nI j') z) := by
  have hF : A + (e - 1) * W + W ≤ 96 := it_F R.2.1.2.2.2.2.2.2.2.1 hx.1 hx.2.1
  have hW := it_W12 R
  have hl := tl_le st (A + (e - 1) * W) z W
  obtain ⟨st', dr', oth', ok', hX, hY⟩ := sp_pair (cn := cn) (ck := ck) (fp := fp) (pg := pg) (ob := ob) (hr := hr) (sp := sp) (ix := ix) (sz := sz) (pf := pf) (sc := sc) (ye := ye) (yj := yj) (st := st) (kd := kd) (pl := pl) (wd := wd) (tm := tm) (dg := dg) (dc := dc) (ss := ss) (pc := pc) (op := op) (ox := ox) (oy := oy) (oz := oz) (ps := ps) (jp := jp) (oi := oi) (pa := pa) (pt := pt) (sh := sh) (lc := lc) (rc := rc) (dr := dr) (ln := ln) (sn := sn) (sd := sd) (ch := sg_put ch 0 0 W (fun i => st (A + (e - 1) * W + 0 + i))) (oth := oth) (lw := lw) (hg := hg) (le := le) (bk := bk) (fm := fm) (vy := vy) (s := false) (m := tl_c st (A + (e - 1) * W) z W) (has := 0) hj' R' hx' (Or.inl hK) ok (by omega) (by omega) (fun w => absurd w (by decide))
  refine ⟨st', dr', oth', sg_put ch 0 0 W (fun i => st (A + (e - 1) * W + 0 + i)), ok', fun post hp => ?_, fun post hp => ?_⟩
  · unfold wpX_tally
    exact xi_place hj R hx ⟨W + 1, ty_xL hj R.1.2.2.1 hF (hX _ hp) W 0 _ _ (by omega) rfl rfl⟩
  · unfold wpY_tally
    refine yt_take (sk := 0) hj R hx (Or.inr ⟨by decide, rfl⟩) ?_
    exact ⟨W + 1, ty_yL hW (fun i hi => by rw [sg_in0 _ _ _ _ (Nat.zero_le _) hi, Nat.add_zero]) (yi_elem hj' R' hx' (hY _ hp)) W 0 _ _ (by omega) rfl rfl⟩
end
end
section
/-! IF: NUMERIC, comparing characters, comparing values, the six relations -/
section
variable {cn ck fp pg ob hr sp ix sz pf sc ye yj : Int32}
variable {st kd pl wd tm dg dc ss pc op ox oy oz ps jp oi pa pt sh lc rc dr ln sn sd ch oth lw hg le bk fm vy : Nat → Int32}
variable {K A W T D B S L e j F M m has N n c : Nat} {s : Bool} {V : Int} {x z : Int32} {d : Nat}
theorem nu_L (hj : j < 12) (hw : wd j = nI W) (hF : F + W ≤ 96) (hS : S ≤ W) (hW : W ≤ 13) (hch : ∀ i, i < W - S → ch i = st (F + S + i)) : ∀ (d k : Nat), S + k + d = W → ∃ r : Int32, (r = 0 ∨ r = 1) ∧
    (∀ post, post r → wX_isNumeric_13 post (nI j) (nI F) cn ck fp pg ob hr sp ix sz pf sc st kd pl wd tm dg dc ss pc op ox oy oz ps jp oi pa pt sh lc rc dr (d + 1) (nI (S + k))) ∧ (∀ post, post r (cn, fp, ck, pf, hr, sp, ix, sc, ye, sz, yj, st, kd, pl, ln, dc, tm, sn, sd, op, ox, oy, oz, sh, ch, oth, lw, hg, le, bk, fm, vy) → wY_numeric_9 post (nI (W - S)) cn fp ck pf hr sp ix sc ye sz yj st kd pl ln dc tm sn sd op ox oy oz sh ch oth lw hg le bk fm vy (d + 1) (nI k))
  | 0, k, hd => by
    refine ⟨1, Or.inr rfl, fun post hp => ⟨vp_in_nI hj (by decide), ?_⟩, fun post hp => br_t (nI_le (by omega) (by omega)) hp⟩
    rw [nI_clamp (show j < 2 ^ 31 by omega), hw]
    exact br_t (nI_le (by omega) (by omega)) hp
  | d + 1, k, hd => by
    have v : vp_in (nI j) 12 := vp_in_nI hj (by decide)
    have v2 : vp_in (nI (F + (S + k))) 96 := vp_in_nI (by omega) (by decide)
    have v3 : vp_in (nI k) 32 := vp_in_nI (by omega) (by decide)
    have eA : F + S + k = F + (S + k) := by omega
    by_cases hc : st (F + (S + k)) ≤ 9
    · obtain ⟨r, hr1, hX, hY⟩ := nu_L hj hw hF hS hW hch d (k + 1) (by omega)
      refine ⟨r, hr1, fun post hp => ⟨v, ?_⟩, fun post hp => br_f (nI_ge (by omega) (by omega)) ⟨v3, ?_⟩⟩
      · rw [nI_clamp (show j < 2 ^ 31 by omega), hw]
        refine br_f (nI_ge (by omega) (by omega)) ?_
        rw [nI_add, nI_clamp (show F + (S + k) < 2 ^ 31 by omega)]
        exact ⟨v2, br_t hc (nm_r (nI_1 _) (hX post hp))⟩
      · rw [nI_clamp (show k < 2 ^ 31 by omega), hch k (by omega), eA]
        exact br_t hc (nm_r (nI_1 _) (hY post hp))
    · refine ⟨0, Or.inl rfl, fun post hp => ⟨v, ?_⟩, fun post hp => br_f (nI_ge (by omega) (by omega)) ⟨v3, ?_⟩⟩
      · rw [nI_clamp (show j < 2 ^ 31 by omega), hw]
        refine br_f (nI_ge (by omega) (by omega)) ?_
        rw [nI_add, nI_clamp (show F + (S + k) < 2 ^ 31 by omega)]
        exact ⟨v2, br_f hc hp⟩
      · rw [nI_clamp (show k < 2 ^ 31 by omega), hch k (by omega), eA]
        exact br_f hc hp
theorem nu_pair (hj : j < 12) (R : it_R kd pl wd tm dg dc ss pc ln sn sd j K A W T D B S L) (hx : it_X ix T e) : ∃ (r : Int32) (ch' : Nat → Int32), (r = 0 ∨ r = 1) ∧
    (∀ post, post r → wpX_isNumeric post (cn, ck, fp, pg, ob, hr, sp, ix, sz, pf, sc, st, kd, pl, wd, tm, dg, dc, ss, pc, op, ox, oy, oz, ps, jp, oi, pa, pt, sh, lc, rc, dr) (nI j)) ∧ (∀ post, post r (cn, fp, ck, pf, hr, sp, ix, sc, ye, sz, yj, st, kd, pl, ln, dc, tm, sn, sd, op, ox, oy, oz, sh, ch', oth, lw, hg, le, bk, fm, vy) → wpY_numeric post (cn, fp, ck, pf, hr, sp, ix, sc, ye, sz, yj, st, kd, pl, ln, dc, tm, sn, sd, op, ox, oy, oz, sh, ch, oth, lw, hg, le, bk, fm, vy) (nI j)) := by
  have R0 := R
  obtain ⟨⟨r1, r2, r3, r4, r5, r6, r7, r8⟩, ⟨k1, k2, k3, k4, k5, k6, k7, k8, k9, k10, k11⟩, -, -, -⟩ := R0
  have hF : A + (e - 1) * W + W ≤ 96 := it_F k8 hx.1 hx.2.1
  have hW := it_W12 R
  obtain ⟨r, hr1, hX, hY⟩ := nu_L (cn := cn) (ck := ck) (fp := fp) (pg := pg) (ob := ob) (hr := hr) (sp := sp) (ix := ix) (sz := sz) (pf := pf) (sc := sc) (ye := ye) (yj := yj) (st := st) (kd := kd) (pl := pl) (wd := wd) (tm := tm) (dg := dg) (dc := dc) (ss := ss) (pc := pc) (op := op) (ox := ox) (oy := oy) (oz := oz) (ps := ps) (jp := jp) (oi := oi) (pa := pa) (pt := pt) (sh := sh) (lc := lc) (rc := rc) (dr := dr) (ln := ln) (sn := sn) (sd := sd) (ch := sg_put ch 0 0 (W - S) (fun i => st (A + (e - 1) * W + S + i))) (oth := oth) (lw := lw) (hg := hg) (le := le) (bk := bk) (fm := fm) (vy := vy) (S := S) (F := A + (e - 1) * W) hj r3 hF (by omega) (by omega) (fun i hi => sg_in0 _ _ _ _ (Nat.zero_le _) hi) (W - S) 0 (by omega)
  refine ⟨r, sg_put ch 0 0 (W - S) (fun i => st (A + (e - 1) * W + S + i)), hr1, fun post hp => ?_, fun post hp => ?_⟩
  · unfold wpX_isNumeric
    refine xi_place hj R hx ?_
    refine ⟨vp_in_nI hj (by decide), ?_⟩
    rw [nI_clamp (show j < 2 ^ 31 by omega), r7]
    exact nm_e ⟨_, hX _ hp⟩
  · unfold wpY_numeric
    exact yt_take (sk := S) hj R hx (Or.inl ⟨rfl, rfl⟩) ⟨_, hY _ hp⟩
theorem ct_L {a b : Nat → Int32} {m k : Nat} (hm : m ≤ 12) (hk : k ≤ 12) (ha : ∀ i, i < 12 → lc i = a i) (hb : ∀ i, i < 12 → rc i = b i) (ha1 : ∀ i, i < m → oth i = a i) (ha2 : ∀ i, m ≤ i → a i = 10) (hb1 : ∀ i, i < k → ch i = b i) (hb2 : ∀ i, k ≤ i → b i = 10) :
    ∀ (d i : Nat), i + d = 12 → ∃ r : Int32, (r = 0 ∨ r = 1 ∨ r = -1) ∧ (∀ post, post r (cn, ck, fp, pg, ob, hr, sp, ix, sz, pf, sc, st, kd, pl, wd, tm, dg, dc, ss, pc, op, ox, oy, oz, ps, jp, oi, pa, pt, sh, lc, rc, dr) → wX_orderOfCharacters_20 post cn ck fp pg ob hr sp ix sz pf sc st kd pl wd tm dg dc ss pc op ox oy oz ps jp oi pa pt sh lc rc dr (d + 1) (nI i)) ∧ (∀ post, post r (cn, fp, ck, pf, hr, sp, ix, sc, ye, sz, yj, st, kd, pl, ln, dc, tm, sn, sd, op, ox, oy, oz, sh, ch, oth, lw, hg, le, bk, fm, vy) → wY_compareTexts_47 post (nI m) (nI k) cn fp ck pf hr sp ix sc ye sz yj st kd pl ln dc tm sn sd op ox oy oz sh ch oth lw hg le bk fm vy (d + 1) (nI i))
  | 0, i, hd => by
    have e1 : i = 12 := by omega
    subst e1
    exact ⟨0, Or.inl rfl, fun post hp => br_t (by decide) hp, fun post hp => br_t (by decide) hp⟩
  | d + 1, i, hd => by
    have v : vp_in (nI i) 12 := vp_in_nI (by omega) (by decide)
    have v3 : vp_in (nI i) 32 := vp_in_nI (by omega) (by decide)
    have ci : (nI i).toNatClampNeg = i := nI_clamp (by omega)
    have h12 : ¬ (12 : Int32) ≤ nI i := nI_ge (b := 12) (by omega) (by decide)
    -- the reference's two characters are a i and b i
    have hYY : ∀ (post : Int32 → SY → Prop) (J : Int32 → Prop), wY_compareTexts_93 post J (nI m) (nI k) (nI i) (a i) (b i) cn fp ck pf hr sp ix sc ye sz yj st kd pl ln dc tm sn sd op ox oy oz sh ch oth lw hg le bk fm vy → (nI m ≤ nI i → wY_compareTexts_72 post J (nI m) (nI k) (nI i) 10 cn fp ck pf hr sp ix sc ye sz yj st kd pl ln dc tm sn sd op ox oy oz sh ch oth lw hg le bk fm vy) ∧ (¬ nI m ≤ nI i → vp_in (nI i) 32 ∧ wY_compareTexts_72 post J (nI m) (nI k) (nI i) (oth (nI i).toNatClampNeg) cn fp ck pf hr sp ix sc ye sz yj st kd pl ln dc tm sn sd op ox oy oz sh ch oth lw hg le bk fm vy) := by
      intro post J h
      have h72 : wY_compareTexts_72 post J (nI m) (nI k) (nI i) (a i) cn fp ck pf hr sp ix sc ye sz yj st kd pl ln dc tm sn sd op ox oy oz sh ch oth lw hg le bk fm vy := by
        by_cases c : i < k
        · refine br_f (nI_ge c (by omega)) ⟨v3, ?_⟩
          rw [ci, hb1 i c]
          exact h
        · rw [hb2 i (by omega)] at h
          exact br_t (nI_le (by omega) (by omega)) h
      by_cases c : i < m
      · refine br_f (nI_ge c (by omega)) ⟨v3, ?_⟩
        rw [ci, ha1 i c]
        exact h72
      · rw [ha2 i (by omega)] at h72
        exact br_t (nI_le (by omega) (by omega)) h72
    by_cases hab : a i = b i
    · obtain ⟨r, hr1, hX, hY⟩ := ct_L hm hk ha hb ha1 ha2 hb1 hb2 d (i + 1) (by omega)
      refine ⟨r, hr1, fun post hp => br_f h12 ⟨v, v, ?_⟩, fun post hp => br_f h12 (hYY _ _ (br_t hab (nm_r (nI_1 _) (hY post hp))))⟩
      rw [ci, ha i (by omega), hb i (by omega)]
      exact br_t hab (nm_r (nI_1 _) (hX post hp))
    · by_cases hlt : b i ≤ a i
      · refine ⟨1, Or.inr (Or.inl rfl), fun post hp => br_f h12 ⟨v, v, ?_⟩, fun post hp => br_f h12 (hYY _ _ (br_f hab (br_t hlt hp)))⟩
        rw [ci, ha i (by omega), hb i (by omega)]
        exact br_f hab ⟨v, v, br_t hlt hp⟩
      · refine ⟨-1, Or.inr (Or.inr rfl), fun post hp => br_f h12 ⟨v, v, ?_⟩, fun post hp => br_f h12 (hYY _ _ (br_f hab (br_f hlt hp)))⟩
        rw [ci, ha i (by omega), hb i (by omega)]
        exact br_f hab ⟨v, v, br_f hlt hp⟩
theorem ct_cp {post : Int32 → SY → Prop} {y : Int32} {m : Nat} (hm : m ≤ 12) (h : wpY_take (fun r u => match u with | (cn, fp, ck, pf, hr, sp, ix, sc, ye, sz, yj, st, kd, pl, ln, dc, tm, sn, sd, op, ox, oy, oz, sh, ch, oth, lw, hg, le, bk, fm, vy) => ∃ n47 : Nat, wY_compareTexts_47 post (nI m) r cn fp ck pf hr sp ix sc ye sz yj st kd pl ln dc tm sn sd op ox oy oz sh ch oth lw hg le bk fm vy n47 0) (cn, fp, ck, pf, hr, sp, ix, sc, ye, sz, yj, st, kd, pl, ln, dc, tm, sn, sd, op, ox, oy, oz, sh, ch, sg_put oth 0 0 m ch, lw, hg, le, bk, fm, vy) y 0) : ∀ (d i : Nat) (x4 : Int32) (q : Nat → Int32), i + d = m → x4 = nI i → q = sg_put oth 0 0 i ch →
    wY_compareTexts_10 post y (nI m) cn fp ck pf hr sp ix sc ye sz yj (d + 1) x4 st kd pl ln dc tm sn sd op ox oy oz sh ch q lw hg le bk fm vy
  | 0, i, x4, q, hd, h4, hq => by
    subst h4 hq
    have e1 : i = m := by omega
    subst e1
    exact br_t (nI_le (Nat.le_refl _) (by omega)) h
  | d + 1, i, x4, q, hd, h4, hq => by
    subst h4 hq
    have v3 : vp_in (nI i) 32 := vp_in_nI (by omega) (by decide)
    refine br_f (nI_ge (by omega) (by omega)) ⟨v3, v3, ?_⟩
    rw [nI_clamp (show i < 2 ^ 31 by omega)]
    exact nm_r (sg_up0 oth i ch) (nm_e (ct_cp hm h d (i + 1) _ _ (by omega) (nI_1 i) rfl))
theorem ct_pair {j' K' A' W' T' D' B' S' L' e' : Nat} (hj : j < 12) (R : it_R kd pl wd tm dg dc ss pc ln sn sd j K A W T D B S L) (hx : it_X ix T e) (hj' : j' < 12) (R' : it_R kd pl wd tm dg dc ss pc ln sn sd j' K' A' W' T' D' B' S' L') (hx' : it_X ix T' e') :
    ∃ (r : Int32) (lc' rc' ch' oth' : Nat → Int32), (r = 0 ∨ r = 1 ∨ r = -1) ∧ (∀ post, post r (cn, ck, fp, pg, ob, hr, sp, ix, sz, pf, sc, st, kd, pl, wd, tm, dg, dc, ss, pc, op, ox, oy, oz, ps, jp, oi, pa, pt, sh, lc', rc', dr) → wpX_orderOfCharacters post (cn, ck, fp, pg, ob, hr, sp, ix, sz, pf, sc, st, kd, pl, wd, tm, dg, dc, ss, pc, op, ox, oy, oz, ps, jp, oi, pa, pt, sh, lc, rc, dr) (nI j) (nI j')) ∧ (∀ post, post r (cn, fp, ck, pf, hr, sp, ix, sc, ye, sz, yj, st, kd, pl, ln, dc, tm, sn, sd, op, ox, oy, oz, sh, ch', oth', lw, hg, le, bk, fm, vy) → wpY_compareTexts post (cn, fp, ck, pf, hr, sp, ix, sc, ye, sz, yj, st, kd, pl, ln, dc, tm, sn, sd, op, ox, oy, oz, sh, ch, oth, lw, hg, le, bk, fm, vy) (nI j) (nI j')) := by
  have hW := it_W12 R
  have hW' := it_W12 R'
  have hin : ∀ (f g : Nat → Int32) (h0 : Nat) i, i < h0 → sg_put g 0 0 h0 f i = f i := fun f g h0 i hi => sg_in0 _ _ _ _ (Nat.zero_le _) hi
  obtain ⟨r, hr1, hX, hY⟩ := ct_L (cn := cn) (ck := ck) (fp := fp) (pg := pg) (ob := ob) (hr := hr) (sp := sp) (ix := ix) (sz := sz) (pf := pf) (sc := sc) (ye := ye) (yj := yj) (st := st) (kd := kd) (pl := pl) (wd := wd) (tm := tm) (dg := dg) (dc := dc) (ss := ss) (pc := pc) (op := op) (ox := ox) (oy := oy) (oz := oz) (ps := ps) (jp := jp) (oi := oi) (pa := pa) (pt := pt) (sh := sh) (lc := sg_put lc 0 0 12 (tx_c st (A + (e - 1) * W + S) (W - S))) (rc := sg_put rc 0 0 12 (tx_c st (A' + (e' - 1) * W' + S') (W' - S'))) (dr := dr) (ln := ln) (sn := sn) (sd := sd) (ch := sg_put (sg_put ch 0 0 (W - S) (fun i => st (A + (e - 1) * W + S + i))) 0 0 (W' - S') (fun i => st (A' + (e' - 1) * W' + S' + i))) (oth := sg_put oth 0 0 (W - S) (sg_put ch 0 0 (W - S) (fun i => st (A + (e - 1) * W + S + i)))) (lw := lw) (hg := hg) (le := le) (bk := bk) (fm := fm) (vy := vy)
    (a := tx_c st (A + (e - 1) * W + S) (W - S)) (b := tx_c st (A' + (e' - 1) * W' + S') (W' - S')) (m := W - S) (k := W' - S') (by omega) (by omega) (fun i hi => hin _ _ _ _ hi) (fun i hi => hin _ _ _ _ hi)
    (fun i hi => by rw [hin _ _ _ _ hi, hin _ _ _ _ hi]; exact (if_pos hi).symm) (fun i hi => if_neg (by omega)) (fun i hi => by rw [hin _ _ _ _ hi]; exact (if_pos hi).symm) (fun i hi => if_neg (by omega)) 12 0 (by omega)
  refine ⟨r, sg_put lc 0 0 12 (tx_c st (A + (e - 1) * W + S) (W - S)), sg_put rc 0 0 12 (tx_c st (A' + (e' - 1) * W' + S') (W' - S')), sg_put (sg_put ch 0 0 (W - S) (fun i => st (A + (e - 1) * W + S + i))) 0 0 (W' - S') (fun i => st (A' + (e' - 1) * W' + S' + i)), sg_put oth 0 0 (W - S) (sg_put ch 0 0 (W - S) (fun i => st (A + (e - 1) * W + S + i))), hr1, fun post hp => ?_, fun post hp => ?_⟩
  · unfold wpX_orderOfCharacters
    exact xt_left hj R hx (xt_right hj' R' hx' ⟨_, hX _ hp⟩)
  · unfold wpY_compareTexts
    refine yt_take (sk := S) hj R hx (Or.inl ⟨rfl, rfl⟩) ⟨W - S + 1, ct_cp (by omega) ?_ (W - S) 0 _ _ (by omega) rfl (sg_0 _ _ _ _).symm⟩
    exact yt_take (sk := S') hj' R' hx' (Or.inl ⟨rfl, rfl⟩) ⟨_, hY _ hp⟩
/-- comparing two numbers -/
theorem cv_pair {j' K' A' W' T' D' B' S' L' e' : Nat} (ok : st_ok st) (hj : j < 12) (R : it_R kd pl wd tm dg dc ss pc ln sn sd j K A W T D B S L) (hx : it_X ix T e) (hj' : j' < 12) (R' : it_R kd pl wd tm dg dc ss pc ln sn sd j' K' A' W' T' D' B' S' L') (hx' : it_X ix T' e') :
    ∃ r : Int32, (r = 0 ∨ r = 1 ∨ r = -1) ∧ (∀ post, post r → wpX_orderOfValues post (cn, ck, fp, pg, ob, hr, sp, ix, sz, pf, sc, st, kd, pl, wd, tm, dg, dc, ss, pc, op, ox, oy, oz, ps, jp, oi, pa, pt, sh, lc, rc, dr) (nI j) (nI j')) ∧ (∀ post, post r → wpY_compareValues post (cn, fp, ck, pf, hr, sp, ix, sc, ye, sz, yj, st, kd, pl, ln, dc, tm, sn, sd, op, ox, oy, oz, sh, ch, oth, lw, hg, le, bk, fm, vy) (nI j) (nI j')) := by
  obtain ⟨V, hV⟩ : ∃ V, V = vl_v st K (A + (e - 1) * W) W S := ⟨_, rfl⟩
  obtain ⟨V', hV'⟩ : ∃ V', V' = vl_v st K' (A' + (e' - 1) * W') W' S' := ⟨_, rfl⟩
  have O : od_P ix st kd pl wd tm dg dc ss pc ln sn sd (nI j) 0 V B := Or.inr ⟨j, K, A, W, T, D, B, S, L, e, hj, rfl, R, hx, hV, rfl⟩
  have O' : od_P ix st kd pl wd tm dg dc ss pc ln sn sd (nI j') 0 V' B' := Or.inr ⟨j', K', A', W', T', D', B', S', L', e', hj', rfl, R', hx', hV', rfl⟩
  have b1 : V.natAbs < 1000000000 := by rw [hV, vl_nn]; exact vl_lt st K _ W S (fun w => by have := (R.2.2.1 w).2.1; have := R.2.1.2.2.2.2.2.2.1; omega)
  have b2 : V'.natAbs < 1000000000 := by rw [hV', vl_nn]; exact vl_lt st K' _ W' S' (fun w => by have := (R'.2.2.1 w).2.1; have := R'.2.1.2.2.2.2.2.2.1; omega)
  have b3 := (od_b O).2
  have b4 := (od_b O').2
  have r6 := R.1.2.2.2.2.2.1
  have r6' := R'.1.2.2.2.2.2.1
  have v : vp_in (nI j) 12 := vp_in_nI hj (by decide)
  have v' : vp_in (nI j') 12 := vp_in_nI hj' (by decide)
  have cj : (nI j).toNatClampNeg = j := nI_clamp (by omega)
  have cj' : (nI j').toNatClampNeg = j' := nI_clamp (by omega)
  have bnd : ∀ (U : Int) (k : Nat), U.natAbs < 1000000000 → k ≤ 9 → ar_B (U * ((10 ^ k : Nat) : Int)) := by
    intro U k hU hk
    have h1 : (U * ((10 ^ k : Nat) : Int)).natAbs ≤ 1000000000 * 1000000000 := by
      rw [Int.natAbs_mul, Int.natAbs_natCast]
      exact Nat.mul_le_mul (by omega) (cp_p9 hk)
    exact ⟨by omega, by omega⟩
  obtain ⟨f, hf1, hf2, hf3, hfX, hfY⟩ : ∃ f : Nat, B ≤ f ∧ B' ≤ f ∧ f ≤ 9 ∧ (B ≤ B' → f = B') ∧ (¬ B ≤ B' → f = B) := by
    by_cases h : B ≤ B'
    · exact ⟨B', h, Nat.le_refl _, b4, fun _ => rfl, fun w => absurd h w⟩
    · exact ⟨B, Nat.le_refl _, by omega, b3, fun w => absurd w h, fun _ => rfl⟩
  have c1 := cm_sc (a := V) (b := V') hf1 hf2 hf3
  have c2 := cm_sc (a := V') (b := V) hf2 hf1 hf3
  -- one answer for both
  have key : ∃ r : Int32, (r = 0 ∨ r = 1 ∨ r = -1) ∧ (∀ post : Int32 → Prop, post r → ((ar_l (V' * ((10 ^ (f - B') : Nat) : Int)) ≤ ar_l (V * ((10 ^ (f - B) : Nat) : Int)) → ((ar_l (V * ((10 ^ (f - B) : Nat) : Int)) ≤ ar_l (V' * ((10 ^ (f - B') : Nat) : Int)) → post 0) ∧ (¬ ar_l (V * ((10 ^ (f - B) : Nat) : Int)) ≤ ar_l (V' * ((10 ^ (f - B') : Nat) : Int)) → post 1))) ∧ (¬ ar_l (V' * ((10 ^ (f - B') : Nat) : Int)) ≤ ar_l (V * ((10 ^ (f - B) : Nat) : Int)) → post (-1)))) ∧
      (∀ post : Int32 → Prop, post r → ((ar_l (V' * ((10 ^ (9 - B') : Nat) : Int)) ≤ ar_l (V * ((10 ^ (9 - B) : Nat) : Int)) → ((ar_l (V * ((10 ^ (9 - B) : Nat) : Int)) ≤ ar_l (V' * ((10 ^ (9 - B') : Nat) : Int)) → post 0) ∧ (¬ ar_l (V * ((10 ^ (9 - B) : Nat) : Int)) ≤ ar_l (V' * ((10 ^ (9 - B') : Nat) : Int)) → post 1))) ∧ (¬ ar_l (V' * ((10 ^ (9 - B') : Nat) : Int)) ≤ ar_l (V * ((10 ^ (9 - B) : Nat) : Int)) → post (-1)))) := by
    rw [ar_le (bnd V' (f - B') b2 (by omega)) (bnd V (f - B) b1 (by omega)), ar_le (bnd V (f - B) b1 (by omega)) (bnd V' (f - B') b2 (by omega)), ar_le (bnd V' (9 - B') b2 (by omega)) (bnd V (9 - B) b1 (by omega)), ar_le (bnd V (9 - B) b1 (by omega)) (bnd V' (9 - B') b2 (by omega))]
    by_cases h1 : V * ((10 ^ (f - B) : Nat) : Int) < V' * ((10 ^ (f - B') : Nat) : Int)
    · have h1' := c1.mpr h1
      exact ⟨-1, Or.inr (Or.inr rfl), fun post hp => br_f (by omega) hp, fun post hp => br_f (by omega) hp⟩
    · have h1' := fun w => h1 (c1.mp w)
      by_cases h2 : V' * ((10 ^ (f - B') : Nat) : Int) < V * ((10 ^ (f - B) : Nat) : Int)
      · have h2' := c2.mpr h2
        exact ⟨1, Or.inr (Or.inl rfl), fun post hp => br_t (by omega) (br_f (by omega) hp), fun post hp => br_t (by omega) (br_f (by omega) hp)⟩
      · have h2' := fun w => h2 (c2.mp w)
        exact ⟨0, Or.inl rfl, fun post hp => br_t (by omega) (br_t (by omega) hp), fun post hp => br_t (by omega) (br_t (by omega) hp)⟩
  obtain ⟨r, hr1, kX, kY⟩ := key
  refine ⟨r, hr1, fun post hp => ⟨v, v', ?_⟩, fun post hp => ?_⟩
  · have h30 : wX_orderOfValues_30 post (nI j) (nI j') (nI f) cn ck fp pg ob hr sp ix sz pf sc st kd pl wd tm dg dc ss pc op ox oy oz ps jp oi pa pt sh lc rc dr := by
      unfold wX_orderOfValues_30
      refine xo_val ok O ?_
      refine xo_val ok O' ?_
      refine ⟨v, ?_⟩
      rw [cj, r6, pk_sub hf1]
      refine xw_len (by omega) ⟨v', ?_⟩
      rw [cj', r6', pk_sub hf2]
      exact xw_len (by omega) (kX post hp)
    rw [cj, cj', r6, r6']
    by_cases hB : B ≤ B'
    · rw [hfX hB] at h30
      exact br_t (nI_le hB (by omega)) ⟨v', h30⟩
    · rw [hfY hB] at h30
      exact br_f (nI_ge (by omega) (by omega)) ⟨v, h30⟩
  · subst hV hV'
    unfold wpY_compareValues
    refine yi_elem hj R hx ?_
    refine yv_value hj R hx.1 hx.2.1 ok ?_
    refine ⟨v, ?_⟩
    rw [cj, r6, show (9 : Int32) = nI 9 from rfl, pk_sub b3]
    refine yw_ten (by omega) (nm_r (ar_mul _ _) ?_)
    refine yi_elem hj' R' hx' ?_
    refine yv_value hj' R' hx'.1 hx'.2.1 ok ?_
    refine ⟨v', ?_⟩
    rw [cj', r6', pk_sub b4]
    exact yw_ten (by omega) (nm_r (ar_mul _ _) (kY post hp))
end
end
section
/-! the six relations and what holds -/
section
variable {cn ck fp pg ob hr sp ix sz pf sc ye yj : Int32}
variable {st kd pl wd tm dg dc ss pc op ox oy oz ps jp oi pa pt sh lc rc dr ln sn sd ch oth lw hg le bk fm vy : Nat → Int32}
variable {K A W T D B S L e j F M m has N n c : Nat} {s : Bool} {V : Int} {x z : Int32} {d : Nat}
theorem rl_pair {q : Nat} {r : Int32} (hq : q ≤ 5) (hr1 : r = 0 ∨ r = 1 ∨ r = -1) : ∃ t : Int32, (t = 0 ∨ t = 1) ∧ (∀ post, post t (cn, ck, fp, pg, ob, hr, sp, ix, sz, pf, sc, st, kd, pl, wd, tm, dg, dc, ss, pc, op, ox, oy, oz, ps, jp, oi, pa, pt, sh, lc, rc, dr) → wX_holds_56 post (nI q) r cn ck fp pg ob hr sp ix sz pf sc st kd pl wd tm dg dc ss pc op ox oy oz ps jp oi pa pt sh lc rc dr) ∧ (∀ post, post t (cn, fp, ck, pf, hr, sp, ix, sc, ye, sz, yj, st, kd, pl, ln, dc, tm, sn, sd, op, ox, oy, oz, sh, ch, oth, lw, hg, le, bk, fm, vy) → wY_relates_35 post (nI q) r cn fp ck pf hr sp ix sc ye sz yj st kd pl ln dc tm sn sd op ox oy oz sh ch oth lw hg le bk fm vy) := by
  rcases (show q = 0 ∨ q = 1 ∨ q = 2 ∨ q = 3 ∨ q = 4 ∨ q = 5 by omega) with h | h | h | h | h | h <;> subst h <;> rcases hr1 with h | h | h <;> subst h
  · exact ⟨0, Or.inl rfl, fun post hp => br_f (by decide) (br_f (by decide) (br_t (by decide) (br_t (by decide) (hp)))), fun post hp => ⟨by decide, br_t (by decide) (br_t (by decide) (br_f (by decide) (br_f (by decide) (⟨nb_0, hp⟩))))⟩⟩
  · exact ⟨0, Or.inl rfl, fun post hp => br_f (by decide) (br_f (by decide) (br_t (by decide) (br_t (by decide) (hp)))), fun post hp => ⟨by decide, br_t (by decide) (br_t (by decide) (br_f (by decide) (br_f (by decide) (⟨nb_0, hp⟩))))⟩⟩
  · exact ⟨1, Or.inr rfl, fun post hp => br_f (by decide) (br_f (by decide) (br_t (by decide) (br_f (by decide) (hp)))), fun post hp => ⟨by decide, br_t (by decide) (br_f (by decide) (br_f (by decide) (br_f (by decide) (⟨nb_1, hp⟩))))⟩⟩
  · exact ⟨1, Or.inr rfl, fun post hp => br_f (by decide) (br_f (by decide) (br_f (by decide) (br_t (by decide) (br_t (by decide) (hp))))), fun post hp => ⟨by decide, br_f (by decide) (⟨by decide, br_t (by decide) (br_t (by decide) (br_f (by decide) (br_f (by decide) (⟨nb_1, hp⟩))))⟩)⟩⟩
  · exact ⟨0, Or.inl rfl, fun post hp => br_f (by decide) (br_f (by decide) (br_f (by decide) (br_t (by decide) (br_f (by decide) (hp))))), fun post hp => ⟨by decide, br_f (by decide) (⟨by decide, br_t (by decide) (br_f (by decide) (br_f (by decide) (br_f (by decide) (⟨nb_0, hp⟩))))⟩)⟩⟩
  · exact ⟨0, Or.inl rfl, fun post hp => br_f (by decide) (br_f (by decide) (br_f (by decide) (br_t (by decide) (br_f (by decide) (hp))))), fun post hp => ⟨by decide, br_f (by decide) (⟨by decide, br_t (by decide) (br_f (by decide) (br_f (by decide) (br_f (by decide) (⟨nb_0, hp⟩))))⟩)⟩⟩
  · exact ⟨0, Or.inl rfl, fun post hp => br_f (by decide) (br_f (by decide) (br_f (by decide) (br_f (by decide) (br_t (by decide) (br_t (by decide) (hp)))))), fun post hp => ⟨by decide, br_f (by decide) (⟨by decide, br_f (by decide) (br_t (by decide) (br_f (by decide) (br_f (by decide) (⟨nb_0, hp⟩))))⟩)⟩⟩
  · exact ⟨1, Or.inr rfl, fun post hp => br_f (by decide) (br_f (by decide) (br_f (by decide) (br_f (by decide) (br_t (by decide) (br_f (by decide) (hp)))))), fun post hp => ⟨by decide, br_f (by decide) (⟨by decide, br_f (by decide) (br_f (by decide) (br_f (by decide) (br_f (by decide) (⟨nb_1, hp⟩))))⟩)⟩⟩
  · exact ⟨0, Or.inl rfl, fun post hp => br_f (by decide) (br_f (by decide) (br_f (by decide) (br_f (by decide) (br_t (by decide) (br_t (by decide) (hp)))))), fun post hp => ⟨by decide, br_f (by decide) (⟨by decide, br_f (by decide) (br_t (by decide) (br_f (by decide) (br_f (by decide) (⟨nb_0, hp⟩))))⟩)⟩⟩
  · exact ⟨1, Or.inr rfl, fun post hp => br_f (by decide) (br_f (by decide) (br_f (by decide) (br_f (by decide) (br_f (by decide) (br_t (by decide) (br_f (by decide) (hp))))))), fun post hp => ⟨by decide, br_t (by decide) (br_t (by decide) (br_t (by decide) (br_f (by decide) (hp))))⟩⟩
  · exact ⟨0, Or.inl rfl, fun post hp => br_f (by decide) (br_f (by decide) (br_f (by decide) (br_f (by decide) (br_f (by decide) (br_t (by decide) (br_t (by decide) (hp))))))), fun post hp => ⟨by decide, br_t (by decide) (br_t (by decide) (br_t (by decide) (br_t (by decide) (hp))))⟩⟩
  · exact ⟨1, Or.inr rfl, fun post hp => br_f (by decide) (br_f (by decide) (br_f (by decide) (br_f (by decide) (br_f (by decide) (br_t (by decide) (br_f (by decide) (hp))))))), fun post hp => ⟨by decide, br_t (by decide) (br_f (by decide) (br_t (by decide) (br_f (by decide) (hp))))⟩⟩
  · exact ⟨0, Or.inl rfl, fun post hp => br_f (by decide) (br_f (by decide) (br_f (by decide) (br_f (by decide) (br_f (by decide) (br_f (by decide) (br_t (by decide) (br_t (by decide) (hp)))))))), fun post hp => ⟨by decide, br_f (by decide) (⟨by decide, br_t (by decide) (br_t (by decide) (br_f (by decide) (br_t (by decide) (br_t (by decide) (br_t (by decide) (hp))))))⟩)⟩⟩
  · exact ⟨1, Or.inr rfl, fun post hp => br_f (by decide) (br_f (by decide) (br_f (by decide) (br_f (by decide) (br_f (by decide) (br_f (by decide) (br_t (by decide) (br_f (by decide) (hp)))))))), fun post hp => ⟨by decide, br_f (by decide) (⟨by decide, br_t (by decide) (br_f (by decide) (br_f (by decide) (br_t (by decide) (br_t (by decide) (br_f (by decide) (hp))))))⟩)⟩⟩
  · exact ⟨1, Or.inr rfl, fun post hp => br_f (by decide) (br_f (by decide) (br_f (by decide) (br_f (by decide) (br_f (by decide) (br_f (by decide) (br_t (by decide) (br_f (by decide) (hp)))))))), fun post hp => ⟨by decide, br_f (by decide) (⟨by decide, br_t (by decide) (br_f (by decide) (br_f (by decide) (br_t (by decide) (br_t (by decide) (br_f (by decide) (hp))))))⟩)⟩⟩
  · exact ⟨1, Or.inr rfl, fun post hp => br_f (by decide) (br_t (by decide) (br_f (by decide) (hp))), fun post hp => ⟨by decide, br_f (by decide) (⟨by decide, br_f (by decide) (br_t (by decide) (br_f (by decide) (br_t (by decide) (br_f (by decide) (br_f (by decide) (hp))))))⟩)⟩⟩
  · exact ⟨1, Or.inr rfl, fun post hp => br_f (by decide) (br_t (by decide) (br_f (by decide) (hp))), fun post hp => ⟨by decide, br_f (by decide) (⟨by decide, br_f (by decide) (br_f (by decide) (br_f (by decide) (br_t (by decide) (br_f (by decide) (br_f (by decide) (hp))))))⟩)⟩⟩
  · exact ⟨0, Or.inl rfl, fun post hp => br_f (by decide) (br_t (by decide) (br_t (by decide) (hp))), fun post hp => ⟨by decide, br_f (by decide) (⟨by decide, br_f (by decide) (br_t (by decide) (br_f (by decide) (br_t (by decide) (br_f (by decide) (br_t (by decide) (hp))))))⟩)⟩⟩
/-- an IF's condition: the same answer on both sides; only the rows of characters change -/
def hd_O (cn ck fp pg ob hr sp ix sz pf sc ye yj : Int32) (st kd pl wd tm dg dc ss pc op ox oy oz ps jp oi pa pt sh lc rc dr ln sn sd ch oth lw hg le bk fm vy : Nat → Int32) (PX : (Int32 → SX → Prop) → Prop) (PY : (Int32 → SY → Prop) → Prop) : Prop :=
  ∃ (t : Int32) (lc' rc' ch' oth' : Nat → Int32), (t = 0 ∨ t = 1) ∧ (∀ post : Int32 → SX → Prop, post t (cn, ck, fp, pg, ob, hr, sp, ix, sz, pf, sc, st, kd, pl, wd, tm, dg, dc, ss, pc, op, ox, oy, oz, ps, jp, oi, pa, pt, sh, lc', rc', dr) → PX post) ∧ (∀ post : Int32 → SY → Prop, post t (cn, fp, ck, pf, hr, sp, ix, sc, ye, sz, yj, st, kd, pl, ln, dc, tm, sn, sd, op, ox, oy, oz, sh, ch', oth', lw, hg, le, bk, fm, vy) → PY post)
theorem hd_rel {j' K' A' W' T' D' B' S' L' e' q : Nat} (ok : st_ok st) (hj : j < 12) (R : it_R kd pl wd tm dg dc ss pc ln sn sd j K A W T D B S L) (hx : it_X ix T e) (hj' : j' < 12) (R' : it_R kd pl wd tm dg dc ss pc ln sn sd j' K' A' W' T' D' B' S' L') (hx' : it_X ix T' e') (hq : q ≤ 5) :
    hd_O cn ck fp pg ob hr sp ix sz pf sc ye yj st kd pl wd tm dg dc ss pc op ox oy oz ps jp oi pa pt sh lc rc dr ln sn sd ch oth lw hg le bk fm vy (fun post => wpX_holds post (cn, ck, fp, pg, ob, hr, sp, ix, sz, pf, sc, st, kd, pl, wd, tm, dg, dc, ss, pc, op, ox, oy, oz, ps, jp, oi, pa, pt, sh, lc, rc, dr) 10 (nI j) (nI j') (nI q)) (fun post => wpY_relates post (cn, fp, ck, pf, hr, sp, ix, sc, ye, sz, yj, st, kd, pl, ln, dc, tm, sn, sd, op, ox, oy, oz, sh, ch, oth, lw, hg, le, bk, fm, vy) (nI j) (nI j') (nI q)) := by
  have r1 := R.1.1
  have r1' := R'.1.1
  have k2 := R.2.1.2.1
  have k2' := R'.2.1.2.1
  have cj : (nI j).toNatClampNeg = j := nI_clamp (by omega)
  have cj' : (nI j').toNatClampNeg = j' := nI_clamp (by omega)
  have v : vp_in (nI j) 12 := vp_in_nI hj (by decide)
  have v' : vp_in (nI j') 12 := vp_in_nI hj' (by decide)
  have un : ∀ {i : Nat} {k : Nat}, i < 12 → kd i = nI k → k ≤ 3 → ¬ k = 2 → ¬ ft_s kd (nI i) 2 := by
    rintro i k hi hk h3 h2 ⟨i', hi', ei, w⟩
    rw [nI_eq (by omega) (by omega)] at ei
    subst ei
    rw [hk] at w
    exact h2 ((nI_eq (b := 2) (by omega) (by decide)).mp w)
  have n2 : ∀ {k : Nat}, k ≤ 3 → ¬ k = 2 → ¬ nI k = 2 := fun h3 h2 w => h2 ((nI_eq (b := 2) (by omega) (by decide)).mp w)
  by_cases ht : K = 2 ∨ K' = 2
  · obtain ⟨r, lc', rc', ch', oth', hr1, hX, hY⟩ := ct_pair (cn := cn) (ck := ck) (fp := fp) (pg := pg) (ob := ob) (hr := hr) (sp := sp) (ix := ix) (sz := sz) (pf := pf) (sc := sc) (ye := ye) (yj := yj) (st := st) (kd := kd) (pl := pl) (wd := wd) (tm := tm) (dg := dg) (dc := dc) (ss := ss) (pc := pc) (op := op) (ox := ox) (oy := oy) (oz := oz) (ps := ps) (jp := jp) (oi := oi) (pa := pa) (pt := pt) (sh := sh) (lc := lc) (rc := rc) (dr := dr) (ln := ln) (sn := sn) (sd := sd) (ch := ch) (oth := oth) (lw := lw) (hg := hg) (le := le) (bk := bk) (fm := fm) (vy := vy) hj R hx hj' R' hx'
    obtain ⟨t, ht1, gX, gY⟩ := rl_pair (cn := cn) (ck := ck) (fp := fp) (pg := pg) (ob := ob) (hr := hr) (sp := sp) (ix := ix) (sz := sz) (pf := pf) (sc := sc) (ye := ye) (yj := yj) (st := st) (kd := kd) (pl := pl) (wd := wd) (tm := tm) (dg := dg) (dc := dc) (ss := ss) (pc := pc) (op := op) (ox := ox) (oy := oy) (oz := oz) (ps := ps) (jp := jp) (oi := oi) (pa := pa) (pt := pt) (sh := sh) (lc := lc') (rc := rc') (dr := dr) (ln := ln) (sn := sn) (sd := sd) (ch := ch') (oth := oth') (lw := lw) (hg := hg) (le := le) (bk := bk) (fm := fm) (vy := vy) hq hr1
    have oX : ∀ post : Int32 → SX → Prop, post t (cn, ck, fp, pg, ob, hr, sp, ix, sz, pf, sc, st, kd, pl, wd, tm, dg, dc, ss, pc, op, ox, oy, oz, ps, jp, oi, pa, pt, sh, lc', rc', dr) → wX_holds_41 post (nI j) (nI j') (nI q) cn ck fp pg ob hr sp ix sz pf sc st kd pl wd tm dg dc ss pc op ox oy oz ps jp oi pa pt sh lc rc dr := by
      intro post hp
      unfold wX_holds_41
      exact hX _ (gX post hp)
    have oY : ∀ post : Int32 → SY → Prop, post t (cn, fp, ck, pf, hr, sp, ix, sc, ye, sz, yj, st, kd, pl, ln, dc, tm, sn, sd, op, ox, oy, oz, sh, ch', oth', lw, hg, le, bk, fm, vy) → wY_relates_20 post (nI j) (nI j') (nI q) cn fp ck pf hr sp ix sc ye sz yj st kd pl ln dc tm sn sd op ox oy oz sh ch oth lw hg le bk fm vy := by
      intro post hp
      unfold wY_relates_20
      exact hY _ (gY post hp)
    refine ⟨t, lc', rc', ch', oth', ht1, fun post hp => br_f (by decide) (br_f (by decide) (xi_sort (fun _ => br_f (by decide) (oX post hp)) (fun w => br_t rfl (xi_sort (fun _ => br_f (by decide) (oX post hp)) (fun w' => ?_))))), fun post hp => ⟨v, ?_⟩⟩
    · rcases ht with h | h
      · subst h
        exact absurd ⟨j, hj, rfl, r1⟩ w
      · subst h
        exact absurd ⟨j', hj', rfl, r1'⟩ w'
    · rw [cj, cj', r1, r1']
      by_cases h : K = 2
      · subst h
        exact br_t rfl (oY post hp)
      · have h' : K' = 2 := by omega
        subst h'
        exact br_f (n2 k2 h) ⟨v', br_t rfl (oY post hp)⟩
  · obtain ⟨r, hr1, hX, hY⟩ := cv_pair (cn := cn) (ck := ck) (fp := fp) (pg := pg) (ob := ob) (hr := hr) (sp := sp) (ix := ix) (sz := sz) (pf := pf) (sc := sc) (ye := ye) (yj := yj) (st := st) (kd := kd) (pl := pl) (wd := wd) (tm := tm) (dg := dg) (dc := dc) (ss := ss) (pc := pc) (op := op) (ox := ox) (oy := oy) (oz := oz) (ps := ps) (jp := jp) (oi := oi) (pa := pa) (pt := pt) (sh := sh) (lc := lc) (rc := rc) (dr := dr) (ln := ln) (sn := sn) (sd := sd) (ch := ch) (oth := oth) (lw := lw) (hg := hg) (le := le) (bk := bk) (fm := fm) (vy := vy) ok hj R hx hj' R' hx'
    obtain ⟨t, ht1, gX, gY⟩ := rl_pair (cn := cn) (ck := ck) (fp := fp) (pg := pg) (ob := ob) (hr := hr) (sp := sp) (ix := ix) (sz := sz) (pf := pf) (sc := sc) (ye := ye) (yj := yj) (st := st) (kd := kd) (pl := pl) (wd := wd) (tm := tm) (dg := dg) (dc := dc) (ss := ss) (pc := pc) (op := op) (ox := ox) (oy := oy) (oz := oz) (ps := ps) (jp := jp) (oi := oi) (pa := pa) (pt := pt) (sh := sh) (lc := lc) (rc := rc) (dr := dr) (ln := ln) (sn := sn) (sd := sd) (ch := ch) (oth := oth) (lw := lw) (hg := hg) (le := le) (bk := bk) (fm := fm) (vy := vy) hq hr1
    refine ⟨t, lc, rc, ch, oth, ht1, fun post hp => br_f (by decide) (br_f (by decide) (xi_sort (fun w => absurd w (un hj r1 k2 (fun z => ht (Or.inl z)))) (fun w => br_t rfl (xi_sort (fun w' => absurd w' (un hj' r1' k2' (fun z => ht (Or.inr z)))) (fun w' => br_t rfl (hX _ (gX post hp))))))), fun post hp => ⟨v, ?_⟩⟩
    rw [cj, cj', r1, r1']
    exact br_f (n2 k2 (fun z => ht (Or.inl z))) ⟨v', br_f (n2 k2' (fun z => ht (Or.inr z))) (hY _ (gY post hp))⟩
end
end
section
/-! paragraphs and partners: the reference's scans against the class's tables -/
theorem pw_iff (o : Int32) : pw_i o ↔ (10 ≤ o ∧ o ≤ 12) := by
  unfold pw_i
  constructor
  · rintro (h | h | h) <;> subst h <;> decide
  · rintro ⟨h1, h2⟩
    have h0 : ¬ o < 0 := fun z => absurd (Int32.lt_of_le_of_lt h1 z) (by decide)
    obtain ⟨k, hk, rfl⟩ := nI_of h0
    have a := (nI_leI (a := 10) (by decide) hk).mp h1
    have b := (nI_leI (b := 12) hk (by decide)).mp h2
    rcases (show k = 10 ∨ k = 11 ∨ k = 12 by omega) with h | h | h <;> subst h
    · exact Or.inl rfl
    · exact Or.inr (Or.inl rfl)
    · exact Or.inr (Or.inr rfl)
theorem tb_par {op ps : Nat → Int32} {n p : Nat} (hP : tb_P op n ps) (hp : p < tb_z op n) : ∃ k0 e, k0 < n ∧ op k0 = 0 ∧ tb_z op k0 = p ∧ ps p = nI k0 ∧ k0 < e ∧ e ≤ n ∧ (e = n ∨ op e = 0) ∧ (∀ i, k0 < i → i < e → ¬ op i = 0) ∧ ps (p + 1) = nI e := by
  obtain ⟨k0, h1, h2, h3⟩ := tb_find op p n hp
  obtain ⟨e, ⟨e1, e2, e3⟩, e4⟩ := pk_least (fun e => k0 < e ∧ e ≤ n ∧ (e = n ∨ op e = 0)) ⟨n, h1, Nat.le_refl _, Or.inl rfl⟩
  have hno : ∀ i, k0 < i → i < e → ¬ op i = 0 := fun i hi he z => e4 i he ⟨hi, by omega, Or.inr z⟩
  have hz : ∀ d, k0 + 1 + d ≤ e → tb_z op (k0 + 1 + d) = p + 1 := by
    intro d
    induction d with
    | zero => intro _; rw [Nat.add_zero, tb_zs h2, h3]
    | succ d ih =>
      intro hd
      have := ih (by omega)
      rw [← Nat.add_assoc, tb_zn (hno _ (by omega) (by omega)), this]
  have hze : tb_z op e = p + 1 := by
    have := hz (e - (k0 + 1)) (by omega)
    rwa [show k0 + 1 + (e - (k0 + 1)) = e from by omega] at this
  refine ⟨k0, e, h1, h2, h3, by rw [← h3]; exact hP.1 k0 h1 h2, e1, e2, e3, hno, ?_⟩
  rcases e3 with z | z
  · rw [← hze, z]
    exact hP.2
  · by_cases en : e = n
    · rw [← hze, en]
      exact hP.2
    · rw [← hze]
      exact hP.1 e (by omega) z
section
variable {cn ck fp pg ob hr sp ix sz pf sc ye yj : Int32}
variable {st kd pl wd tm dg dc ss pc op ox oy oz ps jp oi pa pt sh lc rc dr ln sn sd ch oth lw hg le bk fm vy : Nat → Int32}
variable {n p k0 e : Nat}
theorem yb_bL {post : Int32 → Prop} (hk : k0 < 48) (h0 : op k0 = 0) (hz : tb_z op k0 = p) (h : post (nI k0)) : ∀ (d i : Nat) (x2 x3 : Int32), i + d = k0 → x2 = nI i → x3 = nI (p - tb_z op i) → wY_beginOf_4 post cn fp ck pf hr sp ix sc ye sz yj st kd pl ln dc tm sn sd op ox oy oz sh ch oth lw hg le bk fm vy (d + 1) x2 x3
  | 0, i, x2, x3, hd, h2, h3 => by
    subst h2 h3
    have e1 : i = k0 := by omega
    subst e1
    rw [hz, Nat.sub_self]
    refine br_f (by decide) ⟨vp_in_nI hk (by decide), ?_⟩
    rw [nI_clamp (by omega)]
    exact br_t h0 h
  | d + 1, i, x2, x3, hd, h2, h3 => by
    subst h2 h3
    have v : vp_in (nI i) 48 := vp_in_nI (by omega) (by decide)
    have ci : (nI i).toNatClampNeg = i := nI_clamp (by omega)
    have hm := tb_mono op (show i + 1 ≤ k0 by omega)
    have hl := tb_le op k0
    have hs := tb_s op i
    by_cases ho : op i = 0
    · have hz1 := tb_zs ho
      have IH := yb_bL hk h0 hz h d (i + 1) (nI i + 1) (nI (p - tb_z op i) + (-1)) (by omega) (nI_1 i) (by rw [show p - tb_z op i = (p - tb_z op (i + 1)) + 1 from by omega, pk_m1])
      refine br_t (nI_lt (a := 0) (by omega) (by omega)) ⟨v, ?_⟩
      rw [ci]
      exact br_t ho (nm_e (nm_e IH))
    · have hz1 := tb_zn ho
      have IH := yb_bL hk h0 hz h d (i + 1) (nI i + 1) (nI (p - tb_z op i)) (by omega) (nI_1 i) (by rw [hz1])
      have go : wY_beginOf_17 post (wY_beginOf_4 post cn fp ck pf hr sp ix sc ye sz yj st kd pl ln dc tm sn sd op ox oy oz sh ch oth lw hg le bk fm vy (d + 1)) (nI i) (nI (p - tb_z op i)) cn fp ck pf hr sp ix sc ye sz yj st kd pl ln dc tm sn sd op ox oy oz sh ch oth lw hg le bk fm vy := by
        refine ⟨v, ?_⟩
        rw [ci]
        exact br_f ho (nm_e IH)
      refine br_c (fun _ => go) (fun _ => ⟨v, ?_⟩)
      rw [ci]
      exact br_f ho go
theorem yb_begin {post : Int32 → Prop} (hk : k0 < 48) (h0 : op k0 = 0) (hz : tb_z op k0 = p) (h : post (nI k0)) : wpY_beginOf post (cn, fp, ck, pf, hr, sp, ix, sc, ye, sz, yj, st, kd, pl, ln, dc, tm, sn, sd, op, ox, oy, oz, sh, ch, oth, lw, hg, le, bk, fm, vy) (nI p) :=
  ⟨k0 + 1, yb_bL hk h0 hz h k0 0 _ _ (by omega) rfl rfl⟩
theorem yb_eL {post : Int32 → Prop} (hn : n ≤ 48) (he : e ≤ n) (h1 : e = n ∨ op e = 0) (h2 : ∀ i, k0 < i → i < e → ¬ op i = 0) (h : post (nI e)) : ∀ (d i : Nat) (x2 : Int32), i + d = e → k0 < i → x2 = nI i → wY_endOf_8 post (nI n) fp ck pf hr sp ix sc ye sz yj st kd pl ln dc tm sn sd op ox oy oz sh ch oth lw hg le bk fm vy (d + 1) x2
  | 0, i, x2, hd, hi, h3 => by
    subst h3
    have e1 : i = e := by omega
    subst e1
    by_cases en : i = n
    · exact br_t (nI_le (by omega) (by omega)) h
    · refine br_f (nI_ge (by omega) (by omega)) ⟨vp_in_nI (by omega) (by decide), ?_⟩
      rw [nI_clamp (by omega)]
      exact br_t (h1.resolve_left en) h
  | d + 1, i, x2, hd, hi, h3 => by
    subst h3
    refine br_f (nI_ge (by omega) (by omega)) ⟨vp_in_nI (by omega) (by decide), ?_⟩
    rw [nI_clamp (by omega)]
    exact br_f (h2 i hi (by omega)) (nm_r (nI_1 i) (yb_eL hn he h1 h2 h d (i + 1) _ (by omega) (by omega) rfl))
theorem yb_end {post : Int32 → Prop} (hn : n ≤ 48) (hk : k0 < e) (he : e ≤ n) (h0 : op k0 = 0) (hz : tb_z op k0 = p) (h1 : e = n ∨ op e = 0) (h2 : ∀ i, k0 < i → i < e → ¬ op i = 0) (h : post (nI e)) : wpY_endOf post (nI n, fp, ck, pf, hr, sp, ix, sc, ye, sz, yj, st, kd, pl, ln, dc, tm, sn, sd, op, ox, oy, oz, sh, ch, oth, lw, hg, le, bk, fm, vy) (nI p) := by
  unfold wpY_endOf
  refine yb_begin (by omega) h0 hz ?_
  exact nm_r (nI_1 k0) ⟨e - (k0 + 1) + 1, yb_eL hn he h1 h2 h (e - (k0 + 1)) (k0 + 1) _ (by omega) (by omega) rfl⟩
theorem yb_pL {post : Int32 → Prop} : ∀ (l dd k : Nat) (x2 x3 : Int32), k + l < 48 → dd ≤ k → pw_W op l dd k 0 → (op (k + l) = 13 ∨ op (k + l) = 14) → post (nI (k + l)) → x2 = nI dd → x3 = nI k → wY_partner_6 post cn fp ck pf hr sp ix sc ye sz yj st kd pl ln dc tm sn sd op ox oy oz sh ch oth lw hg le bk fm vy (l + 1) x2 x3
  | 0, dd, k, x2, x3, hk, hdk, hw, ho, h, e2, e3 => by
    subst e2 e3
    have e0 : dd = 0 := (show 0 = dd from hw).symm
    subst e0
    have v : vp_in (nI k) 48 := vp_in_nI (by omega) (by decide)
    have ck1 : (nI k).toNatClampNeg = k := nI_clamp (by omega)
    refine br_f (by decide) ⟨v, ?_⟩
    rw [ck1]
    refine br_c (fun _ => h) (fun z => ⟨v, ?_⟩)
    exact br_t (ho.resolve_right z) h
  | l + 1, dd, k, x2, x3, hk, hdk, hw, ho, h, e2, e3 => by
    subst e2 e3
    obtain ⟨hs, hw⟩ := hw
    have v : vp_in (nI k) 48 := vp_in_nI (by omega) (by decide)
    have ck1 : (nI k).toNatClampNeg = k := nI_clamp (by omega)
    have ea : k + (l + 1) = k + 1 + l := by omega
    rw [ea] at ho h
    have IH : ∀ x2' : Int32, pw_d dd (op k) ≤ k + 1 → x2' = nI (pw_d dd (op k)) → wY_partner_6 post cn fp ck pf hr sp ix sc ye sz yj st kd pl ln dc tm sn sd op ox oy oz sh ch oth lw hg le bk fm vy (l + 1) x2' (nI k + 1) := fun x2' hb e => yb_pL l (pw_d dd (op k)) (k + 1) x2' _ (by omega) hb hw ho h e (nI_1 k)
    have go : wY_partner_32 post (wY_partner_6 post cn fp ck pf hr sp ix sc ye sz yj st kd pl ln dc tm sn sd op ox oy oz sh ch oth lw hg le bk fm vy (l + 1)) (nI dd) (nI k) cn fp ck pf hr sp ix sc ye sz yj st kd pl ln dc tm sn sd op ox oy oz sh ch oth lw hg le bk fm vy := by
      refine ⟨v, ?_⟩
      rw [ck1]
      refine yi_in (fun a b => br_f (by decide) ?_) (fun a => br_t rfl ?_)
      · have hi : pw_i (op k) := (pw_iff _).mpr ⟨a, b⟩
        have hd := pw_di (d := dd) hi
        refine nm_e ⟨v, ?_⟩
        rw [ck1]
        refine br_f (fun z => ?_) (nm_e (IH _ (by omega) (by rw [hd]; exact nI_1 _)))
        rw [z] at b
        exact absurd b (by decide)
      · have hi : ¬ pw_i (op k) := fun z => a ((pw_iff _).mp z)
        refine ⟨v, ?_⟩
        rw [ck1]
        refine br_c (fun z => nm_e (nm_e (IH _ ?_ ?_))) (fun z => nm_e (IH _ ?_ ?_))
        · rw [z, pw_d14]; omega
        · rw [z, pw_d14]
          have : dd ≠ 0 := fun w => hs ⟨w, Or.inr z⟩
          obtain ⟨c, rfl⟩ : ∃ c, dd = c + 1 := ⟨dd - 1, by omega⟩
          rw [pk_m1, Nat.add_sub_cancel]
        · rw [pw_dn hi z]; omega
        · rw [pw_dn hi z]
    by_cases hd0 : dd = 0
    · subst hd0
      refine br_f (by decide) ⟨v, ?_⟩
      rw [ck1]
      refine br_f (fun z => hs ⟨rfl, Or.inr z⟩) ⟨v, ?_⟩
      exact br_f (fun z => hs ⟨rfl, Or.inl z⟩) go
    · exact br_t (nI_lt (a := 0) (by omega) (by omega)) go
theorem yb_part {post : Int32 → Prop} {j : Nat} (he : e < 48) (hp : pw_P op j e) (h : post (nI e)) : wpY_partner post (cn, fp, ck, pf, hr, sp, ix, sc, ye, sz, yj, st, kd, pl, ln, dc, tm, sn, sd, op, ox, oy, oz, sh, ch, oth, lw, hg, le, bk, fm, vy) (nI j) := by
  obtain ⟨l, e1, hw, ho⟩ := hp
  subst e1
  exact nm_r (nI_1 j) ⟨l + 1, yb_pL l 0 (j + 1) _ _ he (by omega) hw ho h rfl rfl⟩
theorem yb_cntL {post : Int32 → Prop} (hn : n ≤ 48) (h : post (nI (tb_z op n))) : ∀ (d i : Nat) (x1 x2 : Int32), i + d = n → x1 = nI (tb_z op i) → x2 = nI i → wY_paragraphs_4 post (nI n) fp ck pf hr sp ix sc ye sz yj st kd pl ln dc tm sn sd op ox oy oz sh ch oth lw hg le bk fm vy (d + 1) x1 x2
  | 0, i, x1, x2, hd, h1, h2 => by
    subst h1 h2
    have e1 : i = n := by omega
    subst e1
    exact br_t (nI_le (Nat.le_refl _) (by omega)) h
  | d + 1, i, x1, x2, hd, h1, h2 => by
    subst h1 h2
    refine br_f (nI_ge (by omega) (by omega)) ⟨vp_in_nI (by omega) (by decide), ?_⟩
    rw [nI_clamp (by omega)]
    refine br_c (fun z => nm_e (nm_e (yb_cntL hn h d (i + 1) _ _ (by omega) ?_ (nI_1 i)))) (fun z => nm_e (yb_cntL hn h d (i + 1) _ _ (by omega) ?_ (nI_1 i)))
    · rw [tb_zs z]; exact nI_1 _
    · rw [tb_zn z]
theorem yb_cnt {post : Int32 → Prop} (hn : n ≤ 48) (h : post (nI (tb_z op n))) : wpY_paragraphs post (nI n, fp, ck, pf, hr, sp, ix, sc, ye, sz, yj, st, kd, pl, ln, dc, tm, sn, sd, op, ox, oy, oz, sh, ch, oth, lw, hg, le, bk, fm, vy) :=
  ⟨n + 1, yb_cntL hn h n 0 _ _ (by omega) rfl rfl⟩
theorem xb_fL {post : SX → Prop} (hn : n ≤ 48) (h : ∀ ps', tb_P op n ps' → post (nI n, ck, fp, nI (tb_z op n), ob, hr, sp, ix, sz, pf, sc, st, kd, pl, wd, tm, dg, dc, ss, pc, op, ox, oy, oz, ps', jp, oi, pa, pt, sh, lc, rc, dr)) : ∀ (d i : Nat) (x1 f : Int32) (q : Nat → Int32), i + d = n → x1 = nI i → f = nI (tb_z op i) → (∀ k, k < i → op k = 0 → q (tb_z op k) = nI k) →
    wX_findParagraphs_7 post (nI n) ck fp ob hr sp ix sz pf sc (d + 1) x1 f st kd pl wd tm dg dc ss pc op ox oy oz q jp oi pa pt sh lc rc dr
  | 0, i, x1, f, q, hd, h1, hf, hq => by
    subst h1 hf
    have e1 : i = n := by omega
    subst e1
    have hl := tb_le op i
    refine br_t (nI_le (Nat.le_refl _) (by omega)) ⟨vp_in_nI (by omega) (by decide), ?_⟩
    rw [nI_clamp (by omega)]
    refine nm_e (h _ ⟨fun k hk hk0 => ?_, pk_us⟩)
    have := tb_mono op (show k + 1 ≤ i by omega)
    rw [tb_zs hk0] at this
    rw [pk_un (by omega)]
    exact hq k hk hk0
  | d + 1, i, x1, f, q, hd, h1, hf, hq => by
    subst h1 hf
    have hl := tb_le op i
    refine br_f (nI_ge (by omega) (by omega)) ⟨vp_in_nI (by omega) (by decide), ?_⟩
    rw [nI_clamp (show i < 2 ^ 31 by omega), nI_clamp (show tb_z op i < 2 ^ 31 by omega)]
    refine br_c (fun z => ⟨vp_in_nI (by omega) (by decide), nm_e (nm_e (nm_e (xb_fL hn h d (i + 1) _ _ _ (by omega) (nI_1 i) ?_ ?_)))⟩) (fun z => nm_e (xb_fL hn h d (i + 1) _ _ _ (by omega) (nI_1 i) ?_ ?_))
    · rw [tb_zs z]; exact nI_1 _
    · intro k hk hk0
      by_cases ek : k = i
      · subst ek
        exact pk_us
      · have := tb_mono op (show k + 1 ≤ i by omega)
        rw [tb_zs hk0] at this
        rw [pk_un (by omega)]
        exact hq k (by omega) hk0
    · rw [tb_zn z]
    · intro k hk hk0
      by_cases ek : k = i
      · subst ek
        exact absurd hk0 z
      · exact hq k (by omega) hk0
theorem xb_find {post : SX → Prop} (hn : n ≤ 48) (h : ∀ ps', tb_P op n ps' → post (nI n, ck, fp, nI (tb_z op n), ob, hr, sp, ix, sz, pf, sc, st, kd, pl, wd, tm, dg, dc, ss, pc, op, ox, oy, oz, ps', jp, oi, pa, pt, sh, lc, rc, dr)) : wpX_findParagraphs post (nI n, ck, fp, pg, ob, hr, sp, ix, sz, pf, sc, st, kd, pl, wd, tm, dg, dc, ss, pc, op, ox, oy, oz, ps, jp, oi, pa, pt, sh, lc, rc, dr) :=
  ⟨n + 1, xb_fL hn h n 0 _ _ _ (by omega) rfl rfl (fun k hk => absurd hk (by omega))⟩
end
end
section
/-! what comes behind an instruction: goOn against the reference's turns of again -/
section
variable {cn ck fp pg ob hr sp ix sz pf sc ye yj : Int32}
variable {st kd pl wd tm dg dc ss pc op ox oy oz ps jp oi pa pt sh lc rc dr ln sn sd ch oth lw hg le bk fm vy : Nat → Int32}
variable {n p k0 i τ ζ h : Nat}
theorem xg_time {post : SX → Prop} {a : Nat} {ix' : Int32} (hp : p < 6) (hi : i < 48) (h1 : pa p = nI i) (h2 : pt p = nI τ) (ha : ox i = nI a) (ha2 : a < 49) (hk : ps a = nI k0) (hix : ix' = if op i = 16 then nI (τ + 1) else ix)
    (h : post (cn, ck, fp, pg, ob, nI k0, sp, ix', sz, nI (p + 1), sc, st, kd, pl, wd, tm, dg, dc, ss, pc, op, ox, oy, oz, ps, jp, oi, pa, upd pt p (nI (τ + 1)), sh, lc, rc, dr)) : wpX_beginTime post (cn, ck, fp, pg, ob, hr, sp, ix, sz, nI (p + 1), sc, st, kd, pl, wd, tm, dg, dc, ss, pc, op, ox, oy, oz, ps, jp, oi, pa, pt, sh, lc, rc, dr) := by
  have v : vp_in (nI p) 6 := vp_in_nI hp (by decide)
  have vi : vp_in (nI i) 48 := vp_in_nI hi (by decide)
  have cp : (nI p).toNatClampNeg = p := nI_clamp (by omega)
  have ci : (nI i).toNatClampNeg = i := nI_clamp (by omega)
  have e1 : upd pt (nI p).toNatClampNeg (pt (nI p).toNatClampNeg + 1) = upd pt p (nI (τ + 1)) := by rw [cp, h2, nI_1]
  have e2 : pa (nI p).toNatClampNeg = nI i := by rw [cp, h1]
  have last : ∀ ix0 : Int32, ix0 = ix' → wX_beginTime_45 post (nI i) cn ck fp pg ob hr sp ix0 sz (nI (p + 1)) sc st kd pl wd tm dg dc ss pc op ox oy oz ps jp oi pa (upd pt p (nI (τ + 1))) sh lc rc dr := by
    intro ix0 e
    subst e
    refine ⟨vi, ?_⟩
    rw [ci, ha, nI_clamp (show a < 2 ^ 31 by omega), hk]
    exact ⟨vp_in_nI ha2 (by decide), nm_e h⟩
  refine nm_r (nI_pred p) ⟨v, nm_r e2 ⟨v, v, nm_r e1 ⟨vi, ?_⟩⟩⟩
  rw [ci, cp]
  by_cases ho : op i = 16
  · rw [if_pos ho] at hix
    refine br_t ho ⟨v, nm_r pk_us (last _ hix.symm)⟩
  · rw [if_neg ho] at hix
    exact br_f ho (last _ hix.symm)
theorem ya_pop {post : SY → Prop} (hp : p < 6) (h1 : le p = nI 1) (h2 : bk p = nI k0) (h : post (cn, fp, ck, nI p, nI k0, sp, ix, sc, ye, sz, yj, st, kd, pl, ln, dc, tm, sn, sd, op, ox, oy, oz, sh, ch, oth, lw, hg, upd le p 0, bk, fm, vy)) : wpY_again post (cn, fp, ck, nI (p + 1), hr, sp, ix, sc, ye, sz, yj, st, kd, pl, ln, dc, tm, sn, sd, op, ox, oy, oz, sh, ch, oth, lw, hg, le, bk, fm, vy) := by
  have v : vp_in (nI p) 6 := vp_in_nI hp (by decide)
  have cp : (nI p).toNatClampNeg = p := nI_clamp (by omega)
  have e1 : upd le (nI p).toNatClampNeg (le (nI p).toNatClampNeg - 1) = upd le p 0 := by rw [cp, h1]; rfl
  refine nm_r (nI_pred p) ⟨v, v, nm_r e1 ⟨v, ?_⟩⟩
  rw [cp]
  exact br_t pk_us (nm_r (nI_pred p) ⟨v, nm_r h2 h⟩)
theorem ya_next {post : SY → Prop} {a : Nat} {ix' : Int32} (hp : p < 6) (h1 : le p = nI (ζ - τ + 1)) (h2 : τ < ζ) (h3 : ζ < 2 ^ 31) (h4 : fm p = nI τ) (h5 : vy p = if op i = 16 then 1 else 0) (h6 : lw p = nI a) (hix : ix' = if op i = 16 then nI (τ + 1) else ix)
    (hk : k0 < 48) (h0 : op k0 = 0) (hz : tb_z op k0 = a) (h : post (cn, fp, ck, nI (p + 1), nI k0, sp, ix', sc, ye, sz, 1, st, kd, pl, ln, dc, tm, sn, sd, op, ox, oy, oz, sh, ch, oth, lw, hg, upd le p (nI (ζ - τ)), bk, upd fm p (nI (τ + 1)), vy)) : wpY_again post (cn, fp, ck, nI (p + 1), hr, sp, ix, sc, ye, sz, yj, st, kd, pl, ln, dc, tm, sn, sd, op, ox, oy, oz, sh, ch, oth, lw, hg, le, bk, fm, vy) := by
  have v : vp_in (nI p) 6 := vp_in_nI hp (by decide)
  have cp : (nI p).toNatClampNeg = p := nI_clamp (by omega)
  have e1 : upd le (nI p).toNatClampNeg (le (nI p).toNatClampNeg - 1) = upd le p (nI (ζ - τ)) := by rw [cp, h1, nI_pred]
  have e2 : upd fm (nI p).toNatClampNeg (fm (nI p).toNatClampNeg + 1) = upd fm p (nI (τ + 1)) := by rw [cp, h4, nI_1]
  have last : ∀ ix0 : Int32, ix0 = ix' → wY_again_76 post (nI p) cn fp ck (nI (p + 1)) hr sp ix0 sc ye sz yj st kd pl ln dc tm sn sd op ox oy oz sh ch oth lw hg (upd le p (nI (ζ - τ))) bk (upd fm p (nI (τ + 1))) vy := by
    intro ix0 e
    subst e
    refine ⟨v, ?_⟩
    rw [cp, h6]
    exact yb_begin hk h0 hz h
  refine nm_r (nI_pred p) ⟨v, v, nm_r e1 ⟨v, ?_⟩⟩
  rw [cp]
  refine br_f (fun z => ?_) ⟨v, v, ?_⟩
  · rw [pk_us] at z
    exact nI_ne0 (by omega) (by omega) z
  · rw [cp] at e2
    refine nm_r e2 ⟨v, ?_⟩
    rw [h5]
    by_cases ho : op i = 16
    · rw [if_pos ho] at hix ⊢
      exact br_f (by decide) ⟨v, nm_r pk_us (last _ hix.symm)⟩
    · rw [if_neg ho] at hix ⊢
      exact br_t rfl (last _ hix.symm)
/-- the reference's head of a turn, with none or some performs, where no end is reached -/
theorem yr_head {post : Int32 → SY → Prop} {J : Int32 → Int32 → Int32 → Int32 → Int32 → Int32 → Int32 → Int32 → Int32 → Int32 → Int32 → (Nat → Int32) → (Nat → Int32) → (Nat → Int32) → (Nat → Int32) → (Nat → Int32) → (Nat → Int32) → (Nat → Int32) → (Nat → Int32) → (Nat → Int32) → (Nat → Int32) → (Nat → Int32) → (Nat → Int32) → (Nat → Int32) → (Nat → Int32) → (Nat → Int32) → (Nat → Int32) → (Nat → Int32) → (Nat → Int32) → (Nat → Int32) → (Nat → Int32) → (Nat → Int32) → Prop} {b : Nat} (hn : n ≤ 48) (hp6 : p ≤ 6) (hP : tb_P op n ps) (hye : ¬ 0 ≤ ye)
    (hal : ¬ yj = 0 ∨ p = 0 ∨ (hg (p - 1) = nI b ∧ b < tb_z op n ∧ ¬ nI h = ps (b + 1))) (H : wY_run_96 post J (nI n) fp ck (nI p) (nI h) sp ix sc ye sz yj st kd pl ln dc tm sn sd op ox oy oz sh ch oth lw hg le bk fm vy) :
    ((0 ≤ ye → post ye (nI n, fp, ck, nI p, nI h, sp, ix, sc, ye, sz, yj, st, kd, pl, ln, dc, tm, sn, sd, op, ox, oy, oz, sh, ch, oth, lw, hg, le, bk, fm, vy)) ∧ (¬ 0 ≤ ye → ((yj = 0 → ((nI p ≤ 0 → wY_run_96 post J (nI n) fp ck (nI p) (nI h) sp ix sc ye sz yj st kd pl ln dc tm sn sd op ox oy oz sh ch oth lw hg le bk fm vy) ∧ (¬ nI p ≤ 0 → (vp_in (nI p - 1) 6 ∧ (wpY_endOf (fun r_76 => ((nI h = r_76 → wY_run_97 post J 1 (nI n) fp ck (nI p) (nI h) sp ix sc ye sz yj st kd pl ln dc tm sn sd op ox oy oz sh ch oth lw hg le bk fm vy) ∧ (¬ nI h = r_76 → wY_run_96 post J (nI n) fp ck (nI p) (nI h) sp ix sc ye sz yj st kd pl ln dc tm sn sd op ox oy oz sh ch oth lw hg le bk fm vy))) (nI n, fp, ck, nI p, nI h, sp, ix, sc, ye, sz, yj, st, kd, pl, ln, dc, tm, sn, sd, op, ox, oy, oz, sh, ch, oth, lw, hg, le, bk, fm, vy) (hg (nI p - 1).toNatClampNeg)))))) ∧ (¬ yj = 0 → wY_run_96 post J (nI n) fp ck (nI p) (nI h) sp ix sc ye sz yj st kd pl ln dc tm sn sd op ox oy oz sh ch oth lw hg le bk fm vy)))) := by
  refine br_f hye (br_c (fun hj => br_c (fun _ => H) (fun hp => ?_)) (fun _ => H))
  have hp0 : p ≠ 0 := fun z => hp (by subst z; decide)
  obtain ⟨q, rfl⟩ : ∃ q, p = q + 1 := ⟨p - 1, by omega⟩
  rcases hal with z | z | ⟨h1, h2, h3⟩
  · exact absurd hj z
  · exact absurd z hp0
  · rw [nI_pred, nI_clamp (show q < 2 ^ 31 by omega)]
    rw [Nat.add_sub_cancel] at h1
    rw [h1]
    obtain ⟨k0, e, a1, a2, a3, a4, a5, a6, a7, a8, a9⟩ := tb_par hP h2
    rw [a9] at h3
    exact ⟨vp_in_nI (by omega) (by decide), yb_end hn a5 a6 a2 a3 a7 a8 (br_f h3 H)⟩
/-- the same where the topmost perform's end is reached -/
theorem yr_again {post : Int32 → SY → Prop} {J : Int32 → Int32 → Int32 → Int32 → Int32 → Int32 → Int32 → Int32 → Int32 → Int32 → Int32 → (Nat → Int32) → (Nat → Int32) → (Nat → Int32) → (Nat → Int32) → (Nat → Int32) → (Nat → Int32) → (Nat → Int32) → (Nat → Int32) → (Nat → Int32) → (Nat → Int32) → (Nat → Int32) → (Nat → Int32) → (Nat → Int32) → (Nat → Int32) → (Nat → Int32) → (Nat → Int32) → (Nat → Int32) → (Nat → Int32) → (Nat → Int32) → (Nat → Int32) → (Nat → Int32) → Prop} {b : Nat} (hn : n ≤ 48) (hp6 : p < 6) (hP : tb_P op n ps) (hye : ¬ 0 ≤ ye) (h1 : hg p = nI b) (h2 : b < tb_z op n) (h3 : nI h = ps (b + 1)) (H : wpY_again (fun u => match u with | (cn, fp, ck, pf, hr, sp, ix, sc, ye, sz, yj, st, kd, pl, ln, dc, tm, sn, sd, op, ox, oy, oz, sh, ch, oth, lw, hg, le, bk, fm, vy) => J cn fp ck pf hr sp ix sc ye sz yj st kd pl ln dc tm sn sd op ox oy oz sh ch oth lw hg le bk fm vy) (nI n, fp, ck, nI (p + 1), nI h, sp, ix, sc, ye, sz, 0, st, kd, pl, ln, dc, tm, sn, sd, op, ox, oy, oz, sh, ch, oth, lw, hg, le, bk, fm, vy)) :
    ((0 ≤ ye → post ye (nI n, fp, ck, nI (p + 1), nI h, sp, ix, sc, ye, sz, 0, st, kd, pl, ln, dc, tm, sn, sd, op, ox, oy, oz, sh, ch, oth, lw, hg, le, bk, fm, vy)) ∧ (¬ 0 ≤ ye → (((0 : Int32) = 0 → ((nI (p + 1) ≤ 0 → wY_run_96 post J (nI n) fp ck (nI (p + 1)) (nI h) sp ix sc ye sz 0 st kd pl ln dc tm sn sd op ox oy oz sh ch oth lw hg le bk fm vy) ∧ (¬ nI (p + 1) ≤ 0 → (vp_in (nI (p + 1) - 1) 6 ∧ (wpY_endOf (fun r_76 => ((nI h = r_76 → wY_run_97 post J 1 (nI n) fp ck (nI (p + 1)) (nI h) sp ix sc ye sz 0 st kd pl ln dc tm sn sd op ox oy oz sh ch oth lw hg le bk fm vy) ∧ (¬ nI h = r_76 → wY_run_96 post J (nI n) fp ck (nI (p + 1)) (nI h) sp ix sc ye sz 0 st kd pl ln dc tm sn sd op ox oy oz sh ch oth lw hg le bk fm vy))) (nI n, fp, ck, nI (p + 1), nI h, sp, ix, sc, ye, sz, 0, st, kd, pl, ln, dc, tm, sn, sd, op, ox, oy, oz, sh, ch, oth, lw, hg, le, bk, fm, vy) (hg (nI (p + 1) - 1).toNatClampNeg)))))) ∧ (¬ (0 : Int32) = 0 → wY_run_96 post J (nI n) fp ck (nI (p + 1)) (nI h) sp ix sc ye sz 0 st kd pl ln dc tm sn sd op ox oy oz sh ch oth lw hg le bk fm vy)))) := by
  refine br_f hye (br_t rfl (br_f (nI_nle (by omega) (by omega)) ?_))
  rw [nI_pred, nI_clamp (show p < 2 ^ 31 by omega), h1]
  obtain ⟨k0, e, a1, a2, a3, a4, a5, a6, a7, a8, a9⟩ := tb_par hP h2
  rw [a9] at h3
  exact ⟨vp_in_nI (by omega) (by decide), yb_end hn a5 a6 a2 a3 a7 a8 (br_t h3 (br_f (by decide) H))⟩
end
end
section
/-! goOn whole: by the number of performs -/
def ag_al (yj : Int32) (h p : Nat) (hg ps op : Nat → Int32) (n : Nat) : Prop := ¬ yj = 0 ∨ p = 0 ∨ ∃ b, hg (p - 1) = nI b ∧ b < tb_z op n ∧ ¬ nI h = ps (b + 1)
theorem pg_per {op ox oy oz kd ps jp : Nat → Int32} {n i : Nat} (Pg : rl_P op ox oy oz kd ps jp n) (hi : i < n) (ho : op i = 15 ∨ op i = 16) : ∃ a b, ox i = nI a ∧ oy i = nI b ∧ a ≤ b ∧ b < tb_z op n := by
  obtain ⟨-, -, -, hf, -⟩ := Pg
  obtain ⟨o, h1, h2, -, -, -, -, h3, -⟩ := hf i hi
  apply h3
  rcases ho with z | z <;> rw [h2] at z
  · exact Or.inl ((nI_eq (b := 15) (by omega) (by decide)).mp z)
  · exact Or.inr ((nI_eq (b := 16) (by omega) (by decide)).mp z)
section
variable {cn ck fp pg ob hr sp ix sz pf sc ye yj : Int32}
variable {st kd pl wd tm dg dc ss pc op ox oy oz ps jp oi pa pt sh lc rc dr ln sn sd ch oth lw hg le bk fm vy : Nat → Int32}
variable {n : Nat}
theorem ag_L (hn : n ≤ 48) (Pg : rl_P op ox oy oz kd ps jp n) (hye : ¬ 0 ≤ ye) : ∀ (p i0 h : Nat) (le : Nat → Int32), i0 + p ≤ 6 → h ≤ n → rn_F op ox oy oz pa pt lw hg le bk fm vy n p →
    ∃ (h' p' : Nat) (ix' yj' : Int32) (pt' le' fm' : Nat → Int32), h' ≤ n ∧ p' ≤ 6 ∧ rn_F op ox oy oz pa pt' lw hg le' bk fm' vy n p' ∧ (yj' = 0 ∨ yj' = 1) ∧ ag_al yj' h' p' hg ps op n ∧
      (∀ post, post (nI n, ck, fp, pg, ob, nI h', sp, ix', sz, nI p', sc, st, kd, pl, wd, tm, dg, dc, ss, pc, op, ox, oy, oz, ps, jp, oi, pa, pt', sh, lc, rc, dr) → wX_goOn_7 post (nI n) ck fp pg ob sp ix sz sc st kd pl wd tm dg dc ss pc op ox oy oz ps jp oi pa pt sh lc rc dr (p + 1) (nI i0) (nI h) (nI p)) ∧
      (∀ post, (∃ m, wY_run_49 post m (nI n) fp ck (nI p') (nI h') sp ix' sc ye sz yj' st kd pl ln dc tm sn sd op ox oy oz sh ch oth lw hg le' bk fm' vy) → ∃ m, wY_run_49 post m (nI n) fp ck (nI p) (nI h) sp ix sc ye sz 0 st kd pl ln dc tm sn sd op ox oy oz sh ch oth lw hg le bk fm vy)
  | 0, i0, h, le, hi0, hh, hF => ⟨h, 0, ix, 0, pt, le, fm, hh, by omega, rn_0, Or.inl rfl, Or.inr (Or.inl rfl), fun post hp => br_c (fun _ => hp) (fun _ => br_t (by decide) hp), fun post hp => hp⟩
  | p + 1, i0, h, le, hi0, hh, hF => by
    obtain ⟨i, τ, ζ, hi, ho, f1, f2, f3, f4, f5, f6, g1, g2, g3, g4, g5, g6⟩ := hF p (by omega)
    obtain ⟨a, b, ea, eb, hab, hb⟩ := pg_per Pg hi ho
    have hP := Pg.2.2.1
    have hbn := tb_le op n
    have v : vp_in (nI p) 6 := vp_in_nI (by omega) (by decide)
    have vi : vp_in (nI i) 48 := vp_in_nI (by omega) (by decide)
    have cp : (nI p).toNatClampNeg = p := nI_clamp (by omega)
    have ci : (nI i).toNatClampNeg = i := nI_clamp (by omega)
    have e2 : pa (nI p).toNatClampNeg = nI i := by rw [cp, f1]
    have cb : (nI (b + 1)).toNatClampNeg = b + 1 := nI_clamp (by omega)
    have ehg : hg p = nI b := g2.trans eb
    by_cases hc : nI h = ps (b + 1)
    · by_cases hτ : τ < ζ
      · obtain ⟨k0, e, a1, a2, a3, a4, -⟩ := tb_par hP (show a < tb_z op n by omega)
        refine ⟨k0, p + 1, if op i = 16 then nI (τ + 1) else ix, 1, upd pt p (nI (τ + 1)), upd le p (nI (ζ - τ)), upd fm p (nI (τ + 1)), by omega, by omega, rn_next hF hi ho f1 f3 f4 hτ f6 g1 g2 g4 g6 rfl rfl rfl, Or.inr rfl, Or.inl (by decide), fun post hp => ?_, fun post hp => ?_⟩
        · refine br_f (nI_ge (b := 6) (by omega) (by decide)) (br_f (nI_nle (by omega) (by omega)) (nm_r (nI_pred p) ⟨v, nm_r e2 ⟨vi, ?_⟩⟩))
          rw [ci, cp, eb, nI_1, cb, f3, f2]
          exact ⟨vp_in_nI (by omega) (by decide), br_t hc ⟨v, vi, br_f (nI_ge hτ f6) (xg_time (by omega) (by omega) f1 f2 ea (by omega) a4 rfl hp)⟩⟩
        · obtain ⟨m, hm⟩ := hp
          exact ⟨m + 1, yr_again hn (by omega) hP hye ehg hb hc (ya_next (i := i) (by omega) g3 hτ f6 g5 g6 (g1.trans ea) rfl (by omega) a2 a3 hm)⟩
      · have eτ : τ = ζ := by omega
        subst eτ
        obtain ⟨h', p', ix', yj', pt', le', fm', b1, b2, b3, b4, b5, hX, hY⟩ := ag_L hn Pg hye p (i0 + 1) (i + 1) (upd le p 0) (by omega) (by omega) (rn_pop hF)
        refine ⟨h', p', ix', yj', pt', le', fm', b1, b2, b3, b4, b5, fun post hp => ?_, fun post hp => ?_⟩
        · refine br_f (nI_ge (b := 6) (by omega) (by decide)) (br_f (nI_nle (by omega) (by omega)) (nm_r (nI_pred p) ⟨v, nm_r e2 ⟨vi, ?_⟩⟩))
          rw [ci, cp, eb, nI_1, cb, f3, f2]
          exact ⟨vp_in_nI (by omega) (by decide), br_t hc ⟨v, vi, br_t (nI_le (Nat.le_refl _) f6) (nm_r (nI_1 i) (nm_r (nI_1 i0) (hX post hp)))⟩⟩
        · obtain ⟨m, hm⟩ := hY post hp
          have g3' : le p = nI 1 := by rw [g3, show τ - τ + 1 = 1 from by omega]
          exact ⟨m + 1, yr_again hn (by omega) hP hye ehg hb hc (ya_pop (by omega) g3' g4 hm)⟩
    · refine ⟨h, p + 1, ix, 0, pt, le, fm, hh, by omega, hF, Or.inl rfl, Or.inr (Or.inr ⟨b, ehg, hb, hc⟩), fun post hp => ?_, fun post hp => hp⟩
      refine br_f (nI_ge (b := 6) (by omega) (by decide)) (br_f (nI_nle (by omega) (by omega)) (nm_r (nI_pred p) ⟨v, nm_r e2 ⟨vi, ?_⟩⟩))
      rw [ci, cp, eb, nI_1, cb]
      exact ⟨vp_in_nI (by omega) (by decide), br_f hc hp⟩
end
end
section
/-! the relation between two calls and the relation between two turns of a run -/
def iv_R (u : SX) (v : SY) : Prop := match u, v with
  | (cn, ck, fp, pg, ob, hr, sp, ix, sz, pf, sc, st, kd, pl, wd, tm, dg, dc, ss, pc, op, ox, oy, oz, ps, jp, oi, pa, pt, sh, lc, rc, dr), (cn', fp', ck', pf', hr', sp', ix', sc', ye, sz', yj, st', kd', pl', ln, dc', tm', sn, sd, op', ox', oy', oz', sh', ch, oth, lw, hg, le, bk, fm, vy) => (cn' = cn ∧ fp' = fp ∧ ck' = ck ∧ sp' = sp ∧ ix' = ix ∧ sc' = sc ∧ sz' = sz ∧ st' = st ∧ kd' = kd ∧ pl' = pl ∧ dc' = dc ∧ tm' = tm ∧ op' = op ∧ ox' = ox ∧ oy' = oy ∧ oz' = oz ∧ sh' = sh) ∧ rl_R cn ck sz st kd pl wd tm dg dc ss pc ln sn sd op ox oy oz ps jp
def rr_I (t : Nat) (cn ck hr sp sz pf sc ye yj : Int32) (st kd pl wd tm dg dc ss pc ln sn sd op ox oy oz ps jp pa pt lw hg le bk fm vy : Nat → Int32) : Prop :=
  ∃ n h p c : Nat, (cn = nI n ∧ hr = nI h ∧ pf = nI p ∧ sp = nI t ∧ sc = nI c ∧ ye = -1 ∧ ck = 1) ∧ n ≤ 48 ∧ h ≤ n ∧ p ≤ 6 ∧ t ≤ 500 ∧ c ≤ 12 * t ∧ (sz = 0 ∨ sz = 1) ∧ (yj = 0 ∨ yj = 1) ∧
    st_ok st ∧ it_A kd pl wd tm dg dc ss pc ln sn sd ∧ rl_P op ox oy oz kd ps jp n ∧ rn_F op ox oy oz pa pt lw hg le bk fm vy n p ∧ ag_al yj h p hg ps op n
def rr_R (t : Nat) (u : SX) (v : SY) : Prop := match u, v with
  | (cn, ck, fp, pg, ob, hr, sp, ix, sz, pf, sc, st, kd, pl, wd, tm, dg, dc, ss, pc, op, ox, oy, oz, ps, jp, oi, pa, pt, sh, lc, rc, dr), (cn', fp', ck', pf', hr', sp', ix', sc', ye, sz', yj, st', kd', pl', ln, dc', tm', sn, sd, op', ox', oy', oz', sh', ch, oth, lw, hg, le, bk, fm, vy) => (cn' = cn ∧ fp' = fp ∧ ck' = ck ∧ sp' = sp ∧ ix' = ix ∧ sc' = sc ∧ sz' = sz ∧ st' = st ∧ kd' = kd ∧ pl' = pl ∧ dc' = dc ∧ tm' = tm ∧ op' = op ∧ ox' = ox ∧ oy' = oy ∧ oz' = oz ∧ sh' = sh) ∧ (pf' = pf ∧ hr' = hr) ∧ rr_I t cn ck hr sp sz pf sc ye yj st kd pl wd tm dg dc ss pc ln sn sd op ox oy oz ps jp pa pt lw hg le bk fm vy
def yr_W (post : Int32 → SY → Prop) (m : Nat) (v : SY) : Prop := match v with
  | (cn, fp, ck, pf, hr, sp, ix, sc, ye, sz, yj, st, kd, pl, ln, dc, tm, sn, sd, op, ox, oy, oz, sh, ch, oth, lw, hg, le, bk, fm, vy) => wY_run_49 post m cn fp ck pf hr sp ix sc ye sz yj st kd pl ln dc tm sn sd op ox oy oz sh ch oth lw hg le bk fm vy
/-- one step of a run: it ends with one answer on both sides, or both go on -/
def so_O (t : Nat) (u : SX) (v : SY) : Prop :=
  (∃ (r : Int32) (u' : SX) (v' : SY), ¬ r = -2 ∧ iv_R u' v' ∧ (∀ post, post r u' → wpX_takeStep post u) ∧ (∀ post, post r v' → ∃ m, yr_W post m v)) ∨
  (∃ (u' : SX) (v' : SY), rr_R (t + 1) u' v' ∧ (∀ post, post (-2) u' → wpX_takeStep post u) ∧ (∀ post, (∃ m, yr_W post m v') → ∃ m, yr_W post m v))
section
variable {cn ck fp pg ob hr sp ix sz pf sc ye yj : Int32}
variable {st kd pl wd tm dg dc ss pc op ox oy oz ps jp oi pa pt sh lc rc dr ln sn sd ch oth lw hg le bk fm vy : Nat → Int32}
variable {n h p c t : Nat}
theorem rl_of {ck : Int32} (hn : n ≤ 48) (hsz : sz = 0 ∨ sz = 1) (ok : st_ok st) (hA : it_A kd pl wd tm dg dc ss pc ln sn sd) (Pg : rl_P op ox oy oz kd ps jp n) (hck : ck = 1) : rl_R (nI n) ck sz st kd pl wd tm dg dc ss pc ln sn sd op ox oy oz ps jp :=
  ⟨ok, hA, ⟨n, hn, rfl, fun j hj => by obtain ⟨o, h1, h2, -⟩ := Pg.2.2.2.1 j hj; exact ⟨o, h1, h2⟩, fun _ => Pg⟩, Or.inr hck, hsz⟩
theorem fg_go (hn : n ≤ 48) (hh : h ≤ n) (hp6 : p ≤ 6) (ht : t + 1 ≤ 500) (hc : c ≤ 12 * (t + 1)) (hsz : sz = 0 ∨ sz = 1) (ok : st_ok st) (hA : it_A kd pl wd tm dg dc ss pc ln sn sd) (Pg : rl_P op ox oy oz kd ps jp n) (hF : rn_F op ox oy oz pa pt lw hg le bk fm vy n p) :
    ∃ u' v', rr_R (t + 1) u' v' ∧ (∀ post, post (-2) u' → wX_takeStep_344 post (nI h) (nI n) 1 fp pg ob hr (nI (t + 1)) ix sz (nI p) (nI c) st kd pl wd tm dg dc ss pc op ox oy oz ps jp oi pa pt sh lc rc dr) ∧
      (∀ post, (∃ m, yr_W post m v') → ∃ m, wY_run_49 post m (nI n) fp 1 (nI p) (nI h) (nI (t + 1)) ix (nI c) (-1) sz 0 st kd pl ln dc tm sn sd op ox oy oz sh ch oth lw hg le bk fm vy) := by
  obtain ⟨h', p', ix', yj', pt', le', fm', b1, b2, b3, b4, b5, hX, hY⟩ := ag_L (ck := 1) (fp := fp) (pg := pg) (ob := ob) (sp := nI (t + 1)) (ix := ix) (sz := sz) (sc := nI c) (ye := -1) (st := st) (kd := kd) (pl := pl) (wd := wd) (tm := tm) (dg := dg) (dc := dc) (ss := ss) (pc := pc) (op := op) (ox := ox) (oy := oy) (oz := oz) (ps := ps) (jp := jp) (oi := oi) (pa := pa) (pt := pt) (sh := sh) (lc := lc) (rc := rc) (dr := dr) (ln := ln) (sn := sn) (sd := sd) (ch := ch) (oth := oth) (lw := lw) (hg := hg) (bk := bk) (fm := fm) (vy := vy) hn Pg (by decide) p 0 h le (by omega) hh hF
  refine ⟨(nI n, 1, fp, pg, ob, nI h', nI (t + 1), ix', sz, nI p', nI c, st, kd, pl, wd, tm, dg, dc, ss, pc, op, ox, oy, oz, ps, jp, oi, pa, pt', sh, lc, rc, dr), (nI n, fp, 1, nI p', nI h', nI (t + 1), ix', nI c, (-1), sz, yj', st, kd, pl, ln, dc, tm, sn, sd, op, ox, oy, oz, sh, ch, oth, lw, hg, le', bk, fm', vy), ⟨⟨rfl, rfl, rfl, rfl, rfl, rfl, rfl, rfl, rfl, rfl, rfl, rfl, rfl, rfl, rfl, rfl, rfl⟩, ⟨rfl, rfl⟩, n, h', p', c, ⟨rfl, rfl, rfl, rfl, rfl, rfl, rfl⟩, hn, b1, b2, ht, hc, hsz, b4, ok, hA, Pg, b3, b5⟩, fun post hp => ?_, fun post hp => hY post hp⟩
  exact ⟨p + 1, hX _ hp⟩
/-- the reference's turn where no end is reached, up to its step -/
theorem yg_step {post : Int32 → SY → Prop} (hn : n ≤ 48) (hh : h < n) (hp6 : p ≤ 6) (ht : t < 500) (Pg : rl_P op ox oy oz kd ps jp n) (hal : ag_al yj h p hg ps op n)
    (H : ∃ m, wpY_step (fun u => match u with | (cn, fp, ck, pf, hr, sp, ix, sc, ye, sz, yj, st, kd, pl, ln, dc, tm, sn, sd, op, ox, oy, oz, sh, ch, oth, lw, hg, le, bk, fm, vy) => wY_run_49 post m cn fp ck pf hr sp ix sc ye sz yj st kd pl ln dc tm sn sd op ox oy oz sh ch oth lw hg le bk fm vy) (nI n, fp, 1, nI p, nI h, nI (t + 1), ix, nI c, (-1), sz, 0, st, kd, pl, ln, dc, tm, sn, sd, op, ox, oy, oz, sh, ch, oth, lw, hg, le, bk, fm, vy)) :
    ∃ m, yr_W post m (nI n, fp, 1, nI p, nI h, nI t, ix, nI c, (-1), sz, yj, st, kd, pl, ln, dc, tm, sn, sd, op, ox, oy, oz, sh, ch, oth, lw, hg, le, bk, fm, vy) := by
  obtain ⟨m, hm⟩ := H
  obtain ⟨b, hb⟩ : ∃ b, ¬ yj = 0 ∨ p = 0 ∨ (hg (p - 1) = nI b ∧ b < tb_z op n ∧ ¬ nI h = ps (b + 1)) := by
    rcases hal with z | z | ⟨b, z⟩
    · exact ⟨0, Or.inl z⟩
    · exact ⟨0, Or.inr (Or.inl z)⟩
    · exact ⟨b, Or.inr (Or.inr z)⟩
  refine ⟨m + 1, yr_head hn hp6 Pg.2.2.1 (by decide) hb ?_⟩
  exact br_t rfl (br_t (nI_lt hh (by omega)) (br_f (fun z => by have := (nI_eq (b := 500) (by omega) (by decide)).mp z; omega) (nm_r (nI_1 t) hm)))
/-- the run is over: nothing is left, or the steps are used up -/
theorem so_end (hn : n ≤ 48) (hh : h = n) (hp6 : p ≤ 6) (hsz : sz = 0 ∨ sz = 1) (ok : st_ok st) (hA : it_A kd pl wd tm dg dc ss pc ln sn sd) (Pg : rl_P op ox oy oz kd ps jp n) (hal : ag_al yj h p hg ps op n) :
    so_O t (nI n, 1, fp, pg, ob, nI h, nI t, ix, sz, nI p, nI c, st, kd, pl, wd, tm, dg, dc, ss, pc, op, ox, oy, oz, ps, jp, oi, pa, pt, sh, lc, rc, dr) (nI n, fp, 1, nI p, nI h, nI t, ix, nI c, (-1), sz, yj, st, kd, pl, ln, dc, tm, sn, sd, op, ox, oy, oz, sh, ch, oth, lw, hg, le, bk, fm, vy) := by
  obtain ⟨b, hb⟩ : ∃ b, ¬ yj = 0 ∨ p = 0 ∨ (hg (p - 1) = nI b ∧ b < tb_z op n ∧ ¬ nI h = ps (b + 1)) := by
    rcases hal with z | z | ⟨b, z⟩
    · exact ⟨0, Or.inl z⟩
    · exact ⟨0, Or.inr (Or.inl z)⟩
    · exact ⟨b, Or.inr (Or.inr z)⟩
  refine Or.inl ⟨0, (nI n, 1, fp, pg, ob, nI h, nI t, ix, sz, nI p, nI c, st, kd, pl, wd, tm, dg, dc, ss, pc, op, ox, oy, oz, ps, jp, oi, pa, pt, sh, lc, rc, dr), (nI n, fp, 1, nI p, nI h, nI t, ix, nI c, 0, sz, yj, st, kd, pl, ln, dc, tm, sn, sd, op, ox, oy, oz, sh, ch, oth, lw, hg, le, bk, fm, vy), by decide, ⟨⟨rfl, rfl, rfl, rfl, rfl, rfl, rfl, rfl, rfl, rfl, rfl, rfl, rfl, rfl, rfl, rfl, rfl⟩, rl_of hn hsz ok hA Pg rfl⟩, fun post hp => br_f (nI_nlt (by omega) (by omega)) hp, fun post hp => ⟨2, yr_head hn hp6 Pg.2.2.1 (by decide) hb ?_⟩⟩
  exact br_t rfl (br_f (nI_nlt (by omega) (by omega)) (br_t (by decide) hp))
theorem so_long (hn : n ≤ 48) (hh : h < n) (hp6 : p ≤ 6) (ht : t = 500) (hsz : sz = 0 ∨ sz = 1) (ok : st_ok st) (hA : it_A kd pl wd tm dg dc ss pc ln sn sd) (Pg : rl_P op ox oy oz kd ps jp n) (hal : ag_al yj h p hg ps op n) :
    so_O t (nI n, 1, fp, pg, ob, nI h, nI t, ix, sz, nI p, nI c, st, kd, pl, wd, tm, dg, dc, ss, pc, op, ox, oy, oz, ps, jp, oi, pa, pt, sh, lc, rc, dr) (nI n, fp, 1, nI p, nI h, nI t, ix, nI c, (-1), sz, yj, st, kd, pl, ln, dc, tm, sn, sd, op, ox, oy, oz, sh, ch, oth, lw, hg, le, bk, fm, vy) := by
  obtain ⟨b, hb⟩ : ∃ b, ¬ yj = 0 ∨ p = 0 ∨ (hg (p - 1) = nI b ∧ b < tb_z op n ∧ ¬ nI h = ps (b + 1)) := by
    rcases hal with z | z | ⟨b, z⟩
    · exact ⟨0, Or.inl z⟩
    · exact ⟨0, Or.inr (Or.inl z)⟩
    · exact ⟨b, Or.inr (Or.inr z)⟩
  subst ht
  refine Or.inl ⟨1, (nI n, 1, fp, pg, ob, nI h, nI 500, ix, sz, nI p, nI c, st, kd, pl, wd, tm, dg, dc, ss, pc, op, ox, oy, oz, ps, jp, oi, pa, pt, sh, lc, rc, dr), (nI n, fp, 1, nI p, nI h, nI 500, ix, nI c, 1, sz, yj, st, kd, pl, ln, dc, tm, sn, sd, op, ox, oy, oz, sh, ch, oth, lw, hg, le, bk, fm, vy), by decide, ⟨⟨rfl, rfl, rfl, rfl, rfl, rfl, rfl, rfl, rfl, rfl, rfl, rfl, rfl, rfl, rfl, rfl, rfl⟩, rl_of hn hsz ok hA Pg rfl⟩, fun post hp => br_t (nI_lt hh (by omega)) (br_f (by decide) hp), fun post hp => ⟨2, yr_head hn hp6 Pg.2.2.1 (by decide) hb ?_⟩⟩
  exact br_t rfl (br_t (nI_lt hh (by omega)) (br_t rfl (br_t (by decide) hp)))
end
end
section
/-! INDEX looked at: isOutOfTable and outside -/
def ms_P (ix : Int32) (kd tm : Nat → Int32) (x : Int32) : Prop := ∃ j, j < 12 ∧ x = nI j ∧ ¬ kd j = 0 ∧ ¬ tm j ≤ 1 ∧ ¬ (1 ≤ ix ∧ ix ≤ tm j)
def ms_c (o : Nat) : Nat := if (1 ≤ o ∧ o ≤ 10) ∨ o = 22 then 2 else if o = 12 ∨ o = 19 ∨ o = 20 then 1 else 0
def ms_B (ix : Int32) (kd tm : Nat → Int32) (o : Nat) (x y : Int32) : Prop := (1 ≤ ms_c o ∧ ms_P ix kd tm x) ∨ (ms_c o = 2 ∧ ms_P ix kd tm y)
theorem ac_ex {ix : Int32} {kd pl wd tm dg dc ss pc ln sn sd : Nat → Int32} {x : Int32} (hA : it_A kd pl wd tm dg dc ss pc ln sn sd) (hi : ft_i kd x) (hm : ¬ ms_P ix kd tm x) : ∃ j K A W T D B S L e, j < 12 ∧ x = nI j ∧ it_R kd pl wd tm dg dc ss pc ln sn sd j K A W T D B S L ∧ it_X ix T e := by
  obtain ⟨j, hj, rfl, hk⟩ := hi
  rcases hA j hj with z | ⟨K, A, W, T, D, B, S, L, R⟩
  · exact absurd z hk
  · have r4 := R.1.2.2.2.1
    have k3 := R.2.1.2.2.1
    have k4 := R.2.1.2.2.2.1
    by_cases hT : T = 1
    · exact ⟨j, K, A, W, T, D, B, S, L, 1, hj, rfl, R, by omega, by omega, Or.inl hT⟩
    · have h1 : 1 ≤ ix ∧ ix ≤ tm j := by
        refine Classical.byContradiction fun w => hm ⟨j, hj, rfl, hk, ?_, w⟩
        rw [r4]
        exact nI_ge (a := 1) (by omega) (by omega)
      rw [r4] at h1
      have h0 : ¬ ix < 0 := fun w => absurd (Int32.lt_of_le_of_lt h1.1 w) (by decide)
      obtain ⟨e, he, rfl⟩ := nI_of h0
      have a1 := (nI_leI (a := 1) (by decide) he).mp h1.1
      have a2 := (nI_leI he (by omega)).mp h1.2
      exact ⟨j, K, A, W, T, D, B, S, L, e, hj, rfl, R, a1, a2, Or.inr rfl⟩
section
variable {cn ck fp pg ob hr sp ix sz pf sc ye yj : Int32}
variable {st kd pl wd tm dg dc ss pc op ox oy oz ps jp oi pa pt sh lc rc dr ln sn sd ch oth lw hg le bk fm vy : Nat → Int32}
variable {x y z : Int32}
theorem xm_miss {post : Int32 → Prop} (h1 : ms_P ix kd tm x → post 1) (h0 : ¬ ms_P ix kd tm x → post 0) : wpX_isMissed post (cn, ck, fp, pg, ob, hr, sp, ix, sz, pf, sc, st, kd, pl, wd, tm, dg, dc, ss, pc, op, ox, oy, oz, ps, jp, oi, pa, pt, sh, lc, rc, dr) x := by
  unfold wpX_isMissed
  refine xi_item (fun hi => br_f (by decide) ?_) (fun hi => br_t rfl (h0 ?_))
  · obtain ⟨j, hj, rfl, hk⟩ := hi
    have v : vp_in (nI j) 12 := vp_in_nI hj (by decide)
    have cj : (nI j).toNatClampNeg = j := nI_clamp (by omega)
    have uq : ∀ {i : Nat}, i < 12 → nI j = nI i → j = i := fun hi' e => (nI_eq (by omega) (by omega)).mp e
    refine ⟨v, ?_⟩
    rw [cj]
    refine br_c (fun a => h0 ?_) (fun a => br_c (fun b => h1 ⟨j, hj, rfl, hk, a, fun w => absurd w.1 (Int32.not_le.mpr b)⟩) (fun b => ⟨v, br_c (fun c => h0 ?_) (fun c => h1 ⟨j, hj, rfl, hk, a, fun w => c w.2⟩)⟩))
    · rintro ⟨i, hi', e, -, q, -⟩
      obtain rfl := uq hi' e
      exact q a
    · rintro ⟨i, hi', e, -, -, q⟩
      obtain rfl := uq hi' e
      exact q ⟨Int32.not_lt.mp b, c⟩
  · rintro ⟨i, hi', e, q, -⟩
    exact hi ⟨i, hi', e, q⟩
theorem ym_out {post : Int32 → Prop} (hx : x = 16 ∨ ft_i kd x) (h1 : ms_P ix kd tm x → post 1) (h0 : ¬ ms_P ix kd tm x → post 0) : wpY_outside post (cn, fp, ck, pf, hr, sp, ix, sc, ye, sz, yj, st, kd, pl, ln, dc, tm, sn, sd, op, ox, oy, oz, sh, ch, oth, lw, hg, le, bk, fm, vy) x := by
  rcases hx with rfl | ⟨j, hj, rfl, hk⟩
  · refine br_t rfl (h0 ?_)
    rintro ⟨i, hi', e, -⟩
    exact nI_16 hi' e.symm
  · have v : vp_in (nI j) 12 := vp_in_nI hj (by decide)
    have cj : (nI j).toNatClampNeg = j := nI_clamp (by omega)
    have uq : ∀ {i : Nat}, i < 12 → nI j = nI i → j = i := fun hi' e => (nI_eq (by omega) (by omega)).mp e
    refine br_f (nI_16 hj) ⟨v, ?_⟩
    rw [cj]
    refine br_c (fun a => h0 ?_) (fun a => ⟨v, yi_in (fun b c => br_f (by decide) (h0 ?_)) (fun b => br_t rfl (h1 ⟨j, hj, rfl, hk, a, b⟩))⟩)
    · rintro ⟨i, hi', e, -, q, -⟩
      obtain rfl := uq hi' e
      exact q a
    · rintro ⟨i, hi', e, -, -, q⟩
      obtain rfl := uq hi' e
      exact q ⟨b, c⟩
theorem xm_tab {post : Int32 → Prop} {o : Nat} (ho : o ≤ 22) (h1 : ms_B ix kd tm o x y → post 1) (h0 : ¬ ms_B ix kd tm o x y → post 0) : wpX_isOutOfTable post (cn, ck, fp, pg, ob, hr, sp, ix, sz, pf, sc, st, kd, pl, wd, tm, dg, dc, ss, pc, op, ox, oy, oz, ps, jp, oi, pa, pt, sh, lc, rc, dr) (nI o) x y := by
  have T2 : ms_c o = 2 → ∀ q : Int32, wX_isOutOfTable_17 post q x y cn ck fp pg ob hr sp ix sz pf sc st kd pl wd tm dg dc ss pc op ox oy oz ps jp oi pa pt sh lc rc dr := by
    intro hc q
    refine br_f (by decide) (br_f (by decide) (xm_miss (fun a => br_f (by decide) (h1 (Or.inl ⟨by omega, a⟩))) (fun a => br_t rfl (br_f (by decide) (xm_miss (fun b => br_f (by decide) (h1 (Or.inr ⟨hc, b⟩))) (fun b => br_t rfl (h0 ?_)))))))
    rintro (w | w)
    · exact a w.2
    · exact b w.2
  have T1 : ms_c o = 1 → wX_isOutOfTable_47 post x y 0 cn ck fp pg ob hr sp ix sz pf sc st kd pl wd tm dg dc ss pc op ox oy oz ps jp oi pa pt sh lc rc dr := by
    intro hc
    refine br_f (by decide) (xm_miss (fun a => br_f (by decide) (h1 (Or.inl ⟨by omega, a⟩))) (fun a => br_t rfl (br_t rfl (h0 ?_))))
    rintro (w | w)
    · exact a w.2
    · have := w.1
      omega
  have T0 : ms_c o = 0 → wX_isOutOfTable_52 post x y 0 0 cn ck fp pg ob hr sp ix sz pf sc st kd pl wd tm dg dc ss pc op ox oy oz ps jp oi pa pt sh lc rc dr := by
    intro hc
    refine br_t rfl (br_t rfl (h0 ?_))
    rintro (w | w)
    · have := w.1
      omega
    · have := w.1
      omega
  rcases (show o = 0 ∨ o = 1 ∨ o = 2 ∨ o = 3 ∨ o = 4 ∨ o = 5 ∨ o = 6 ∨ o = 7 ∨ o = 8 ∨ o = 9 ∨ o = 10 ∨ o = 11 ∨ o = 12 ∨ o = 13 ∨ o = 14 ∨ o = 15 ∨ o = 16 ∨ o = 17 ∨ o = 18 ∨ o = 19 ∨ o = 20 ∨ o = 21 ∨ o = 22 by omega) with e | e | e | e | e | e | e | e | e | e | e | e | e | e | e | e | e | e | e | e | e | e | e <;> subst e
  · exact br_t (by decide) (br_f (by decide) (br_t rfl (br_f (by decide) (br_f (by decide) (br_f (by decide) (T0 rfl))))))
  · exact br_f (by decide) (br_t (by decide) (T2 rfl _))
  · exact br_f (by decide) (br_t (by decide) (T2 rfl _))
  · exact br_f (by decide) (br_t (by decide) (T2 rfl _))
  · exact br_f (by decide) (br_t (by decide) (T2 rfl _))
  · exact br_f (by decide) (br_t (by decide) (T2 rfl _))
  · exact br_f (by decide) (br_t (by decide) (T2 rfl _))
  · exact br_f (by decide) (br_t (by decide) (T2 rfl _))
  · exact br_f (by decide) (br_t (by decide) (T2 rfl _))
  · exact br_f (by decide) (br_t (by decide) (T2 rfl _))
  · exact br_f (by decide) (br_t (by decide) (T2 rfl _))
  · exact br_f (by decide) (br_f (by decide) (br_f (by decide) (br_t rfl (br_f (by decide) (br_f (by decide) (br_f (by decide) (T0 rfl)))))))
  · exact br_f (by decide) (br_f (by decide) (br_f (by decide) (br_t rfl (br_t rfl (T1 rfl)))))
  · exact br_f (by decide) (br_f (by decide) (br_f (by decide) (br_t rfl (br_f (by decide) (br_f (by decide) (br_f (by decide) (T0 rfl)))))))
  · exact br_f (by decide) (br_f (by decide) (br_f (by decide) (br_t rfl (br_f (by decide) (br_f (by decide) (br_f (by decide) (T0 rfl)))))))
  · exact br_f (by decide) (br_f (by decide) (br_f (by decide) (br_t rfl (br_f (by decide) (br_f (by decide) (br_f (by decide) (T0 rfl)))))))
  · exact br_f (by decide) (br_f (by decide) (br_f (by decide) (br_t rfl (br_f (by decide) (br_f (by decide) (br_f (by decide) (T0 rfl)))))))
  · exact br_f (by decide) (br_f (by decide) (br_f (by decide) (br_t rfl (br_f (by decide) (br_f (by decide) (br_f (by decide) (T0 rfl)))))))
  · exact br_f (by decide) (br_f (by decide) (br_f (by decide) (br_t rfl (br_f (by decide) (br_f (by decide) (br_f (by decide) (T0 rfl)))))))
  · exact br_f (by decide) (br_f (by decide) (br_f (by decide) (br_t rfl (br_f (by decide) (br_t rfl (T1 rfl))))))
  · exact br_f (by decide) (br_f (by decide) (br_f (by decide) (br_t rfl (br_f (by decide) (br_f (by decide) (br_t rfl (T1 rfl)))))))
  · exact br_f (by decide) (br_f (by decide) (br_f (by decide) (br_t rfl (br_f (by decide) (br_f (by decide) (br_f (by decide) (T0 rfl)))))))
  · exact br_f (by decide) (br_f (by decide) (br_t rfl (T2 rfl _)))
theorem ym_tab {post : SY → Prop} {o h : Nat} (hh : h < 48) (ho : o ≤ 22) (eo : op h = nI o) (ex : ox h = x) (ey : oy h = y) (ez : oz h = z) (hx : 1 ≤ ms_c o → x = 16 ∨ ft_i kd x) (hy : ms_c o = 2 → ft_i kd y)
    (h1 : ms_B ix kd tm o x y → post (cn, fp, ck, pf, nI h, sp, ix, sc, 2, sz, yj, st, kd, pl, ln, dc, tm, sn, sd, op, ox, oy, oz, sh, ch, oth, lw, hg, le, bk, fm, vy)) (h0 : ¬ ms_B ix kd tm o x y → wY_step_137 post (nI o) x y z cn fp ck pf (nI h) sp ix sc ye sz yj st kd pl ln dc tm sn sd op ox oy oz sh ch oth lw hg le bk fm vy) : wpY_step post (cn, fp, ck, pf, nI h, sp, ix, sc, ye, sz, yj, st, kd, pl, ln, dc, tm, sn, sd, op, ox, oy, oz, sh, ch, oth, lw, hg, le, bk, fm, vy) := by
  have v : vp_in (nI h) 48 := vp_in_nI hh (by decide)
  have ch1 : (nI h).toNatClampNeg = h := nI_clamp (by omega)
  have T2 : ms_c o = 2 → wY_step_98 post (nI o) x y z 1 cn fp ck pf (nI h) sp ix sc ye sz yj st kd pl ln dc tm sn sd op ox oy oz sh ch oth lw hg le bk fm vy := by
    intro hc
    refine br_f (by decide) (ym_out (hx (by omega)) (fun a => br_f (by decide) (h1 (Or.inl ⟨by omega, a⟩))) (fun a => br_t rfl (br_f (by decide) (ym_out (Or.inr (hy hc)) (fun b => br_f (by decide) (h1 (Or.inr ⟨hc, b⟩))) (fun b => br_t rfl (h0 ?_))))))
    rintro (w | w)
    · exact a w.2
    · exact b w.2
  have T1 : ms_c o = 1 → wY_step_103 post (nI o) x y z 1 0 cn fp ck pf (nI h) sp ix sc ye sz yj st kd pl ln dc tm sn sd op ox oy oz sh ch oth lw hg le bk fm vy := by
    intro hc
    refine br_f (by decide) (ym_out (hx (by omega)) (fun a => br_f (by decide) (h1 (Or.inl ⟨by omega, a⟩))) (fun a => br_t rfl (br_t rfl (h0 ?_))))
    rintro (w | w)
    · exact a w.2
    · have := w.1
      omega
  have T0 : ms_c o = 0 → wY_step_103 post (nI o) x y z 0 0 cn fp ck pf (nI h) sp ix sc ye sz yj st kd pl ln dc tm sn sd op ox oy oz sh ch oth lw hg le bk fm vy := by
    intro hc
    refine br_t rfl (br_t rfl (h0 ?_))
    rintro (w | w)
    · have := w.1
      omega
    · have := w.1
      omega
  have k80 : wY_step_80 post (nI o) x y z (if 1 ≤ ms_c o then 1 else 0) cn fp ck pf (nI h) sp ix sc ye sz yj st kd pl ln dc tm sn sd op ox oy oz sh ch oth lw hg le bk fm vy := by
    unfold wY_step_80
    rcases (show o = 0 ∨ o = 1 ∨ o = 2 ∨ o = 3 ∨ o = 4 ∨ o = 5 ∨ o = 6 ∨ o = 7 ∨ o = 8 ∨ o = 9 ∨ o = 10 ∨ o = 11 ∨ o = 12 ∨ o = 13 ∨ o = 14 ∨ o = 15 ∨ o = 16 ∨ o = 17 ∨ o = 18 ∨ o = 19 ∨ o = 20 ∨ o = 21 ∨ o = 22 by omega) with e | e | e | e | e | e | e | e | e | e | e | e | e | e | e | e | e | e | e | e | e | e | e <;> subst e
    · exact yi_in (fun a b => absurd a (by decide)) (fun _ => br_t rfl (br_f (by decide) (T0 rfl)))
    · exact yi_in (fun _ _ => br_f (by decide) (T2 rfl)) (fun w => absurd ⟨by decide, by decide⟩ w)
    · exact yi_in (fun _ _ => br_f (by decide) (T2 rfl)) (fun w => absurd ⟨by decide, by decide⟩ w)
    · exact yi_in (fun _ _ => br_f (by decide) (T2 rfl)) (fun w => absurd ⟨by decide, by decide⟩ w)
    · exact yi_in (fun _ _ => br_f (by decide) (T2 rfl)) (fun w => absurd ⟨by decide, by decide⟩ w)
    · exact yi_in (fun _ _ => br_f (by decide) (T2 rfl)) (fun w => absurd ⟨by decide, by decide⟩ w)
    · exact yi_in (fun _ _ => br_f (by decide) (T2 rfl)) (fun w => absurd ⟨by decide, by decide⟩ w)
    · exact yi_in (fun _ _ => br_f (by decide) (T2 rfl)) (fun w => absurd ⟨by decide, by decide⟩ w)
    · exact yi_in (fun _ _ => br_f (by decide) (T2 rfl)) (fun w => absurd ⟨by decide, by decide⟩ w)
    · exact yi_in (fun _ _ => br_f (by decide) (T2 rfl)) (fun w => absurd ⟨by decide, by decide⟩ w)
    · exact yi_in (fun _ _ => br_f (by decide) (T2 rfl)) (fun w => absurd ⟨by decide, by decide⟩ w)
    · exact yi_in (fun a b => absurd b (by decide)) (fun _ => br_t rfl (br_f (by decide) (T0 rfl)))
    · exact yi_in (fun a b => absurd b (by decide)) (fun _ => br_t rfl (br_f (by decide) (T1 rfl)))
    · exact yi_in (fun a b => absurd b (by decide)) (fun _ => br_t rfl (br_f (by decide) (T0 rfl)))
    · exact yi_in (fun a b => absurd b (by decide)) (fun _ => br_t rfl (br_f (by decide) (T0 rfl)))
    · exact yi_in (fun a b => absurd b (by decide)) (fun _ => br_t rfl (br_f (by decide) (T0 rfl)))
    · exact yi_in (fun a b => absurd b (by decide)) (fun _ => br_t rfl (br_f (by decide) (T0 rfl)))
    · exact yi_in (fun a b => absurd b (by decide)) (fun _ => br_t rfl (br_f (by decide) (T0 rfl)))
    · exact yi_in (fun a b => absurd b (by decide)) (fun _ => br_t rfl (br_f (by decide) (T0 rfl)))
    · exact yi_in (fun a b => absurd b (by decide)) (fun _ => br_t rfl (br_f (by decide) (T1 rfl)))
    · exact yi_in (fun a b => absurd b (by decide)) (fun _ => br_t rfl (br_f (by decide) (T1 rfl)))
    · exact yi_in (fun a b => absurd b (by decide)) (fun _ => br_t rfl (br_f (by decide) (T0 rfl)))
    · exact yi_in (fun a b => absurd b (by decide)) (fun _ => br_t rfl (br_t rfl (T2 rfl)))
  refine ⟨v, nm_r (by rw [ch1, eo]) ⟨v, nm_r (by rw [ch1, ex]) ⟨v, nm_r (by rw [ch1, ey]) ⟨v, nm_r (by rw [ch1, ez]) ?_⟩⟩⟩⟩
  rcases (show o = 0 ∨ o = 1 ∨ o = 2 ∨ o = 3 ∨ o = 4 ∨ o = 5 ∨ o = 6 ∨ o = 7 ∨ o = 8 ∨ o = 9 ∨ o = 10 ∨ o = 11 ∨ o = 12 ∨ o = 13 ∨ o = 14 ∨ o = 15 ∨ o = 16 ∨ o = 17 ∨ o = 18 ∨ o = 19 ∨ o = 20 ∨ o = 21 ∨ o = 22 by omega) with e | e | e | e | e | e | e | e | e | e | e | e | e | e | e | e | e | e | e | e | e | e | e <;> subst e
  · exact yi_in (fun a b => absurd a (by decide)) (fun _ => br_t rfl (br_f (by decide) (br_f (by decide) (br_f (by decide) (br_f (by decide) (k80))))))
  · exact yi_in (fun _ _ => br_f (by decide) k80) (fun w => absurd ⟨by decide, by decide⟩ w)
  · exact yi_in (fun _ _ => br_f (by decide) k80) (fun w => absurd ⟨by decide, by decide⟩ w)
  · exact yi_in (fun _ _ => br_f (by decide) k80) (fun w => absurd ⟨by decide, by decide⟩ w)
  · exact yi_in (fun _ _ => br_f (by decide) k80) (fun w => absurd ⟨by decide, by decide⟩ w)
  · exact yi_in (fun _ _ => br_f (by decide) k80) (fun w => absurd ⟨by decide, by decide⟩ w)
  · exact yi_in (fun _ _ => br_f (by decide) k80) (fun w => absurd ⟨by decide, by decide⟩ w)
  · exact yi_in (fun _ _ => br_f (by decide) k80) (fun w => absurd ⟨by decide, by decide⟩ w)
  · exact yi_in (fun _ _ => br_f (by decide) k80) (fun w => absurd ⟨by decide, by decide⟩ w)
  · exact yi_in (fun _ _ => br_f (by decide) k80) (fun w => absurd ⟨by decide, by decide⟩ w)
  · exact yi_in (fun _ _ => br_f (by decide) k80) (fun w => absurd ⟨by decide, by decide⟩ w)
  · exact yi_in (fun a b => absurd b (by decide)) (fun _ => br_t rfl (br_f (by decide) (br_f (by decide) (br_f (by decide) (br_f (by decide) (k80))))))
  · exact yi_in (fun a b => absurd b (by decide)) (fun _ => br_t rfl (br_t rfl k80))
  · exact yi_in (fun a b => absurd b (by decide)) (fun _ => br_t rfl (br_f (by decide) (br_f (by decide) (br_f (by decide) (br_f (by decide) (k80))))))
  · exact yi_in (fun a b => absurd b (by decide)) (fun _ => br_t rfl (br_f (by decide) (br_f (by decide) (br_f (by decide) (br_f (by decide) (k80))))))
  · exact yi_in (fun a b => absurd b (by decide)) (fun _ => br_t rfl (br_f (by decide) (br_f (by decide) (br_f (by decide) (br_f (by decide) (k80))))))
  · exact yi_in (fun a b => absurd b (by decide)) (fun _ => br_t rfl (br_f (by decide) (br_f (by decide) (br_f (by decide) (br_f (by decide) (k80))))))
  · exact yi_in (fun a b => absurd b (by decide)) (fun _ => br_t rfl (br_f (by decide) (br_f (by decide) (br_f (by decide) (br_f (by decide) (k80))))))
  · exact yi_in (fun a b => absurd b (by decide)) (fun _ => br_t rfl (br_f (by decide) (br_f (by decide) (br_f (by decide) (br_f (by decide) (k80))))))
  · exact yi_in (fun a b => absurd b (by decide)) (fun _ => br_t rfl (br_f (by decide) (br_t rfl k80)))
  · exact yi_in (fun a b => absurd b (by decide)) (fun _ => br_t rfl (br_f (by decide) (br_f (by decide) (br_t rfl k80))))
  · exact yi_in (fun a b => absurd b (by decide)) (fun _ => br_t rfl (br_f (by decide) (br_f (by decide) (br_f (by decide) (br_f (by decide) (k80))))))
  · exact yi_in (fun a b => absurd b (by decide)) (fun _ => br_t rfl (br_f (by decide) (br_f (by decide) (br_f (by decide) (br_t rfl k80)))))
end
end
section
/-! one computation whole, by its code; MOVE whole -/
section
variable {cn ck fp pg ob hr sp ix sz pf sc ye yj : Int32}
variable {st kd pl wd tm dg dc ss pc op ox oy oz ps jp oi pa pt sh lc rc dr ln sn sd ch oth lw hg le bk fm vy : Nat → Int32}
variable {K A W T D B S L e j : Nat} {V : Int} {x z : Int32} {d : Nat}
theorem cq_x {post : SX → Prop} {r : Bool} {pc' : Int32} {Vy : Int} (ok : st_ok st) (O : od_P ix st kd pl wd tm dg dc ss pc ln sn sd x z V d) (Oy : od_P ix st kd pl wd tm dg dc ss pc ln sn sd (nI j) 0 Vy B) (hj : j < 12) (R : it_R kd pl wd tm dg dc ss pc ln sn sd j K A W T D B S L) (h5 : pc' = 5 → V = 0 → post (cn, ck, fp, pg, ob, hr, sp, ix, 1, pf, sc, st, kd, pl, wd, tm, dg, dc, ss, pc, op, ox, oy, oz, ps, jp, oi, pa, pt, sh, lc, rc, dr))
    (h : (pc' = 5 → V ≠ 0) → wX_compute_78 post (nI j) (rd_b r) pc' (ar_l Vy) (ar_l V) (nI B) (nI d) cn ck fp pg ob hr sp ix sz pf sc st kd pl wd tm dg dc ss pc op ox oy oz ps jp oi pa pt sh lc rc dr) : wX_compute_25 post x (nI j) z (rd_b r) pc' cn ck fp pg ob hr sp ix sz pf sc st kd pl wd tm dg dc ss pc op ox oy oz ps jp oi pa pt sh lc rc dr := by
  have r6 := R.1.2.2.2.2.2.1
  have hb := (od_b O).1
  unfold wX_compute_25
  refine xo_val ok Oy ?_
  refine xo_val ok O ?_
  refine ⟨vp_in_nI hj (by decide), ?_⟩
  rw [nI_clamp (show j < 2 ^ 31 by omega), r6]
  refine nm_e (xo_dec O ?_)
  have e0 : ar_l V = 0 ↔ V = 0 := ar_eq0 ⟨by omega, by omega⟩
  rw [e0]
  refine br_c (fun w => br_c (fun w2 => h5 w w2) (fun w2 => h (fun _ => w2))) (fun w => h (fun w2 => absurd w2 w))
theorem cq_y {post : SY → Prop} {r how : Int32} {Vy : Int} (ok : st_ok st) (O : od_P ix st kd pl wd tm dg dc ss pc ln sn sd x z V d) (hj : j < 12) (R : it_R kd pl wd tm dg dc ss pc ln sn sd j K A W T D B S L) (hx : it_X ix T e) (eVy : Vy = vl_v st K (A + (e - 1) * W) W S)
    (h : wY_reckon_54 post how r (nI j) (ar_l V) (ar_l Vy) (nI d) cn fp ck pf hr sp ix sc ye sz yj st kd pl ln dc tm sn sd op ox oy oz sh ch oth lw hg le bk fm vy) : wpY_reckon post (cn, fp, ck, pf, hr, sp, ix, sc, ye, sz, yj, st, kd, pl, ln, dc, tm, sn, sd, op, ox, oy, oz, sh, ch, oth, lw, hg, le, bk, fm, vy) how r x (nI j) z := by
  subst eVy
  have k22 : ∀ a : Int64, a = ar_l V → wY_reckon_22 post how r x (nI j) a cn fp ck pf hr sp ix sc ye sz yj st kd pl ln dc tm sn sd op ox oy oz sh ch oth lw hg le bk fm vy := by
    intro a ea
    subst ea
    unfold wY_reckon_22
    refine yi_elem hj R hx ?_
    refine yv_value hj R hx.1 hx.2.1 ok ?_
    rcases O with ⟨f0, f1, f2⟩ | ⟨j', K', A', W', T', D', B', S', L', e', hj', f0, R', hx', f1, f2⟩
    · subst f0 f2
      exact br_t rfl h
    · subst f0 f2
      refine br_f (nI_16 hj') ⟨vp_in_nI hj' (by decide), ?_⟩
      rw [nI_clamp (show j' < 2 ^ 31 by omega), R'.1.2.2.2.2.2.1]
      exact h
  rcases O with ⟨f0, f1, f2⟩ | ⟨j', K', A', W', T', D', B', S', L', e', hj', f0, R', hx', f1, f2⟩
  · subst f0 f1
    exact br_t rfl (k22 _ rfl)
  · subst f0 f1
    exact br_f (nI_16 hj') (yi_elem hj' R' hx' (yv_value hj' R' hx'.1 hx'.2.1 ok (k22 _ rfl)))
theorem cq_O {PX PX' : (SX → Prop) → Prop} {PY PY' : (SY → Prop) → Prop} (h : cp_O cn ck fp pg ob hr sp ix sz pf sc ye yj st kd pl wd tm dg dc ss pc op ox oy oz ps jp oi pa pt sh lc rc dr ln sn sd ch oth lw hg le bk fm vy PX PY) (hX : ∀ post, PX post → PX' post) (hY : ∀ post, PY post → PY' post) : cp_O cn ck fp pg ob hr sp ix sz pf sc ye yj st kd pl wd tm dg dc ss pc op ox oy oz ps jp oi pa pt sh lc rc dr ln sn sd ch oth lw hg le bk fm vy PX' PY' := by
  obtain ⟨st', dr', oth', sz', a, b, c, d⟩ := h
  exact ⟨st', dr', oth', sz', a, b, fun post hp => hX post (c post hp), fun post hp => hY post (d post hp)⟩
/-- the four kinds: pc' the class's code, how the reference's -/
theorem cq_k {r : Bool} {pc' how : Int32} (ok : st_ok st) (O : od_P ix st kd pl wd tm dg dc ss pc ln sn sd x z V d) (hj : j < 12) (R : it_R kd pl wd tm dg dc ss pc ln sn sd j K A W T D B S L) (hx : it_X ix T e) (hK : K = 1) (hk : (pc' = 2 ∧ how = 0) ∨ (pc' = 3 ∧ how = 1) ∨ (pc' = 4 ∧ how = 2) ∨ (pc' = 5 ∧ how = 3)) :
    cp_O cn ck fp pg ob hr sp ix sz pf sc ye yj st kd pl wd tm dg dc ss pc op ox oy oz ps jp oi pa pt sh lc rc dr ln sn sd ch oth lw hg le bk fm vy (fun post => wX_compute_25 post x (nI j) z (rd_b r) pc' cn ck fp pg ob hr sp ix sz pf sc st kd pl wd tm dg dc ss pc op ox oy oz ps jp oi pa pt sh lc rc dr) (fun post => wpY_reckon post (cn, fp, ck, pf, hr, sp, ix, sc, ye, sz, yj, st, kd, pl, ln, dc, tm, sn, sd, op, ox, oy, oz, sh, ch, oth, lw, hg, le, bk, fm, vy) how (rd_b r) x (nI j) z) := by
  obtain ⟨b1, b2⟩ := od_b O
  have Oy : od_P ix st kd pl wd tm dg dc ss pc ln sn sd (nI j) 0 (vl_v st K (A + (e - 1) * W) W S) B := Or.inr ⟨j, K, A, W, T, D, B, S, L, e, hj, rfl, R, hx, rfl, rfl⟩
  have b3 : (vl_v st K (A + (e - 1) * W) W S).natAbs ≤ 1000000000 := by
    rw [vl_nn]
    exact Nat.le_of_lt (vl_lt st K _ W S (fun w => by have := (R.2.2.1 w).2.1; have := R.2.1.2.2.2.2.2.2.1; omega))
  rcases hk with ⟨rfl, rfl⟩ | ⟨rfl, rfl⟩ | ⟨rfl, rfl⟩ | ⟨rfl, rfl⟩
  · exact cq_O (cp_as (sub := false) ok hj R hx hK b1 b3 b2) (fun post hp => cq_x ok O Oy hj R (fun w => absurd w (by decide)) (fun _ => hp)) (fun post hp => cq_y ok O hj R hx rfl hp)
  · exact cq_O (cp_as (sub := true) ok hj R hx hK b1 b3 b2) (fun post hp => cq_x ok O Oy hj R (fun w => absurd w (by decide)) (fun _ => hp)) (fun post hp => cq_y ok O hj R hx rfl hp)
  · exact cq_O (cp_mul ok hj R hx hK b1 b3 b2) (fun post hp => cq_x ok O Oy hj R (fun w => absurd w (by decide)) (fun _ => hp)) (fun post hp => cq_y ok O hj R hx rfl hp)
  · by_cases hV : V = 0
    · refine ⟨st, dr, oth, 1, ok, Or.inr rfl, fun post hp => cq_x ok O Oy hj R (fun _ _ => hp) (fun w => absurd hV (w rfl)), fun post hp => cq_y ok O hj R hx rfl ⟨vp_in_nI hj (by decide), ?_⟩⟩
      rw [nI_clamp (show j < 2 ^ 31 by omega), R.1.2.2.2.2.2.1]
      have h79 : ∀ f : Int32, wY_reckon_79 post 3 (rd_b r) (nI j) (ar_l V) (ar_l (vl_v st K (A + (e - 1) * W) W S)) (nI d) (nI B) f cn fp ck pf hr sp ix sc ye sz yj st kd pl ln dc tm sn sd op ox oy oz sh ch oth lw hg le bk fm vy := fun f => br_t (by decide) (br_f (by decide) (yw_ten (by omega) (nm_e (br_t (by rw [hV]; decide) hp))))
      exact nm_e (br_c (fun _ => h79 _) (fun _ => h79 _))
    · exact cq_O (cp_div ok hj R hx hK b1 b3 b2 hV) (fun post hp => cq_x ok O Oy hj R (fun _ w => absurd w hV) (fun _ => hp)) (fun post hp => cq_y ok O hj R hx rfl hp)
theorem cq_2 (ok : st_ok st) (O : od_P ix st kd pl wd tm dg dc ss pc ln sn sd x z V d) (hj : j < 12) (R : it_R kd pl wd tm dg dc ss pc ln sn sd j K A W T D B S L) (hx : it_X ix T e) (hK : K = 1) :
    cp_O cn ck fp pg ob hr sp ix sz pf sc ye yj st kd pl wd tm dg dc ss pc op ox oy oz ps jp oi pa pt sh lc rc dr ln sn sd ch oth lw hg le bk fm vy (fun post => wpX_compute post (cn, ck, fp, pg, ob, hr, sp, ix, sz, pf, sc, st, kd, pl, wd, tm, dg, dc, ss, pc, op, ox, oy, oz, ps, jp, oi, pa, pt, sh, lc, rc, dr) 2 x (nI j) z) (fun post => wpY_reckon post (cn, fp, ck, pf, hr, sp, ix, sc, ye, sz, yj, st, kd, pl, ln, dc, tm, sn, sd, op, ox, oy, oz, sh, ch, oth, lw, hg, le, bk, fm, vy) 0 0 x (nI j) z) := by
  refine cq_O (cq_k (r := false) (pc' := 2) (how := 0) ok O hj R hx hK (by decide)) (fun post hp => ?_) (fun post hp => hp)
  exact br_t (by decide) (br_t rfl hp)
theorem cq_3 (ok : st_ok st) (O : od_P ix st kd pl wd tm dg dc ss pc ln sn sd x z V d) (hj : j < 12) (R : it_R kd pl wd tm dg dc ss pc ln sn sd j K A W T D B S L) (hx : it_X ix T e) (hK : K = 1) :
    cp_O cn ck fp pg ob hr sp ix sz pf sc ye yj st kd pl wd tm dg dc ss pc op ox oy oz ps jp oi pa pt sh lc rc dr ln sn sd ch oth lw hg le bk fm vy (fun post => wpX_compute post (cn, ck, fp, pg, ob, hr, sp, ix, sz, pf, sc, st, kd, pl, wd, tm, dg, dc, ss, pc, op, ox, oy, oz, ps, jp, oi, pa, pt, sh, lc, rc, dr) 3 x (nI j) z) (fun post => wpY_reckon post (cn, fp, ck, pf, hr, sp, ix, sc, ye, sz, yj, st, kd, pl, ln, dc, tm, sn, sd, op, ox, oy, oz, sh, ch, oth, lw, hg, le, bk, fm, vy) 1 0 x (nI j) z) := by
  refine cq_O (cq_k (r := false) (pc' := 3) (how := 1) ok O hj R hx hK (by decide)) (fun post hp => ?_) (fun post hp => hp)
  exact br_t (by decide) (br_t rfl hp)
theorem cq_4 (ok : st_ok st) (O : od_P ix st kd pl wd tm dg dc ss pc ln sn sd x z V d) (hj : j < 12) (R : it_R kd pl wd tm dg dc ss pc ln sn sd j K A W T D B S L) (hx : it_X ix T e) (hK : K = 1) :
    cp_O cn ck fp pg ob hr sp ix sz pf sc ye yj st kd pl wd tm dg dc ss pc op ox oy oz ps jp oi pa pt sh lc rc dr ln sn sd ch oth lw hg le bk fm vy (fun post => wpX_compute post (cn, ck, fp, pg, ob, hr, sp, ix, sz, pf, sc, st, kd, pl, wd, tm, dg, dc, ss, pc, op, ox, oy, oz, ps, jp, oi, pa, pt, sh, lc, rc, dr) 4 x (nI j) z) (fun post => wpY_reckon post (cn, fp, ck, pf, hr, sp, ix, sc, ye, sz, yj, st, kd, pl, ln, dc, tm, sn, sd, op, ox, oy, oz, sh, ch, oth, lw, hg, le, bk, fm, vy) 2 0 x (nI j) z) := by
  refine cq_O (cq_k (r := false) (pc' := 4) (how := 2) ok O hj R hx hK (by decide)) (fun post hp => ?_) (fun post hp => hp)
  exact br_t (by decide) (br_t rfl hp)
theorem cq_5 (ok : st_ok st) (O : od_P ix st kd pl wd tm dg dc ss pc ln sn sd x z V d) (hj : j < 12) (R : it_R kd pl wd tm dg dc ss pc ln sn sd j K A W T D B S L) (hx : it_X ix T e) (hK : K = 1) :
    cp_O cn ck fp pg ob hr sp ix sz pf sc ye yj st kd pl wd tm dg dc ss pc op ox oy oz ps jp oi pa pt sh lc rc dr ln sn sd ch oth lw hg le bk fm vy (fun post => wpX_compute post (cn, ck, fp, pg, ob, hr, sp, ix, sz, pf, sc, st, kd, pl, wd, tm, dg, dc, ss, pc, op, ox, oy, oz, ps, jp, oi, pa, pt, sh, lc, rc, dr) 5 x (nI j) z) (fun post => wpY_reckon post (cn, fp, ck, pf, hr, sp, ix, sc, ye, sz, yj, st, kd, pl, ln, dc, tm, sn, sd, op, ox, oy, oz, sh, ch, oth, lw, hg, le, bk, fm, vy) 3 0 x (nI j) z) := by
  refine cq_O (cq_k (r := false) (pc' := 5) (how := 3) ok O hj R hx hK (by decide)) (fun post hp => ?_) (fun post hp => hp)
  exact br_t (by decide) (br_t rfl hp)
theorem cq_6 (ok : st_ok st) (O : od_P ix st kd pl wd tm dg dc ss pc ln sn sd x z V d) (hj : j < 12) (R : it_R kd pl wd tm dg dc ss pc ln sn sd j K A W T D B S L) (hx : it_X ix T e) (hK : K = 1) :
    cp_O cn ck fp pg ob hr sp ix sz pf sc ye yj st kd pl wd tm dg dc ss pc op ox oy oz ps jp oi pa pt sh lc rc dr ln sn sd ch oth lw hg le bk fm vy (fun post => wpX_compute post (cn, ck, fp, pg, ob, hr, sp, ix, sz, pf, sc, st, kd, pl, wd, tm, dg, dc, ss, pc, op, ox, oy, oz, ps, jp, oi, pa, pt, sh, lc, rc, dr) 6 x (nI j) z) (fun post => wpY_reckon post (cn, fp, ck, pf, hr, sp, ix, sc, ye, sz, yj, st, kd, pl, ln, dc, tm, sn, sd, op, ox, oy, oz, sh, ch, oth, lw, hg, le, bk, fm, vy) 0 1 x (nI j) z) := by
  refine cq_O (cq_k (r := true) (pc' := 2) (how := 0) ok O hj R hx hK (by decide)) (fun post hp => ?_) (fun post hp => hp)
  refine br_f (by decide) (br_f (by decide) ?_)
  rw [show (6 : Int32) - 4 = 2 from by decide]
  exact hp
theorem cq_7 (ok : st_ok st) (O : od_P ix st kd pl wd tm dg dc ss pc ln sn sd x z V d) (hj : j < 12) (R : it_R kd pl wd tm dg dc ss pc ln sn sd j K A W T D B S L) (hx : it_X ix T e) (hK : K = 1) :
    cp_O cn ck fp pg ob hr sp ix sz pf sc ye yj st kd pl wd tm dg dc ss pc op ox oy oz ps jp oi pa pt sh lc rc dr ln sn sd ch oth lw hg le bk fm vy (fun post => wpX_compute post (cn, ck, fp, pg, ob, hr, sp, ix, sz, pf, sc, st, kd, pl, wd, tm, dg, dc, ss, pc, op, ox, oy, oz, ps, jp, oi, pa, pt, sh, lc, rc, dr) 7 x (nI j) z) (fun post => wpY_reckon post (cn, fp, ck, pf, hr, sp, ix, sc, ye, sz, yj, st, kd, pl, ln, dc, tm, sn, sd, op, ox, oy, oz, sh, ch, oth, lw, hg, le, bk, fm, vy) 1 1 x (nI j) z) := by
  refine cq_O (cq_k (r := true) (pc' := 3) (how := 1) ok O hj R hx hK (by decide)) (fun post hp => ?_) (fun post hp => hp)
  refine br_f (by decide) (br_f (by decide) ?_)
  rw [show (7 : Int32) - 4 = 3 from by decide]
  exact hp
theorem cq_8 (ok : st_ok st) (O : od_P ix st kd pl wd tm dg dc ss pc ln sn sd x z V d) (hj : j < 12) (R : it_R kd pl wd tm dg dc ss pc ln sn sd j K A W T D B S L) (hx : it_X ix T e) (hK : K = 1) :
    cp_O cn ck fp pg ob hr sp ix sz pf sc ye yj st kd pl wd tm dg dc ss pc op ox oy oz ps jp oi pa pt sh lc rc dr ln sn sd ch oth lw hg le bk fm vy (fun post => wpX_compute post (cn, ck, fp, pg, ob, hr, sp, ix, sz, pf, sc, st, kd, pl, wd, tm, dg, dc, ss, pc, op, ox, oy, oz, ps, jp, oi, pa, pt, sh, lc, rc, dr) 8 x (nI j) z) (fun post => wpY_reckon post (cn, fp, ck, pf, hr, sp, ix, sc, ye, sz, yj, st, kd, pl, ln, dc, tm, sn, sd, op, ox, oy, oz, sh, ch, oth, lw, hg, le, bk, fm, vy) 2 1 x (nI j) z) := by
  refine cq_O (cq_k (r := true) (pc' := 4) (how := 2) ok O hj R hx hK (by decide)) (fun post hp => ?_) (fun post hp => hp)
  refine br_f (by decide) (br_f (by decide) ?_)
  rw [show (8 : Int32) - 4 = 4 from by decide]
  exact hp
theorem cq_9 (ok : st_ok st) (O : od_P ix st kd pl wd tm dg dc ss pc ln sn sd x z V d) (hj : j < 12) (R : it_R kd pl wd tm dg dc ss pc ln sn sd j K A W T D B S L) (hx : it_X ix T e) (hK : K = 1) :
    cp_O cn ck fp pg ob hr sp ix sz pf sc ye yj st kd pl wd tm dg dc ss pc op ox oy oz ps jp oi pa pt sh lc rc dr ln sn sd ch oth lw hg le bk fm vy (fun post => wpX_compute post (cn, ck, fp, pg, ob, hr, sp, ix, sz, pf, sc, st, kd, pl, wd, tm, dg, dc, ss, pc, op, ox, oy, oz, ps, jp, oi, pa, pt, sh, lc, rc, dr) 9 x (nI j) z) (fun post => wpY_reckon post (cn, fp, ck, pf, hr, sp, ix, sc, ye, sz, yj, st, kd, pl, ln, dc, tm, sn, sd, op, ox, oy, oz, sh, ch, oth, lw, hg, le, bk, fm, vy) 3 1 x (nI j) z) := by
  refine cq_O (cq_k (r := true) (pc' := 5) (how := 3) ok O hj R hx hK (by decide)) (fun post hp => ?_) (fun post hp => hp)
  refine br_f (by decide) (br_f (by decide) ?_)
  rw [show (9 : Int32) - 4 = 5 from by decide]
  exact hp
theorem mv_all (ok : st_ok st) (O : od_P ix st kd pl wd tm dg dc ss pc ln sn sd x z V d) (hj : j < 12) (R : it_R kd pl wd tm dg dc ss pc ln sn sd j K A W T D B S L) (hx : it_X ix T e) :
    ∃ st' lc' dr' ch' oth', st_ok st' ∧ (∀ post, post (cn, ck, fp, pg, ob, hr, sp, ix, sz, pf, sc, st', kd, pl, wd, tm, dg, dc, ss, pc, op, ox, oy, oz, ps, jp, oi, pa, pt, sh, lc', rc, dr') → wpX_move post (cn, ck, fp, pg, ob, hr, sp, ix, sz, pf, sc, st, kd, pl, wd, tm, dg, dc, ss, pc, op, ox, oy, oz, ps, jp, oi, pa, pt, sh, lc, rc, dr) x (nI j) z) ∧ (∀ post, post (cn, fp, ck, pf, hr, sp, ix, sc, ye, sz, yj, st', kd, pl, ln, dc, tm, sn, sd, op, ox, oy, oz, sh, ch', oth', lw, hg, le, bk, fm, vy) → wpY_move post (cn, fp, ck, pf, hr, sp, ix, sc, ye, sz, yj, st, kd, pl, ln, dc, tm, sn, sd, op, ox, oy, oz, sh, ch, oth, lw, hg, le, bk, fm, vy) x (nI j) z) := by
  have k1 := R.2.1.1
  have k2 := R.2.1.2.1
  by_cases hK : K = 2
  · obtain ⟨st', lc', ch', a, b, c⟩ := mv_txt (cn := cn) (ck := ck) (fp := fp) (pg := pg) (ob := ob) (hr := hr) (sp := sp) (ix := ix) (sz := sz) (pf := pf) (sc := sc) (ye := ye) (yj := yj) (st := st) (kd := kd) (pl := pl) (wd := wd) (tm := tm) (dg := dg) (dc := dc) (ss := ss) (pc := pc) (op := op) (ox := ox) (oy := oy) (oz := oz) (ps := ps) (jp := jp) (oi := oi) (pa := pa) (pt := pt) (sh := sh) (lc := lc) (rc := rc) (dr := dr) (ln := ln) (sn := sn) (sd := sd) (ch := ch) (oth := oth) (lw := lw) (hg := hg) (le := le) (bk := bk) (fm := fm) (vy := vy) ok O hj R hx hK
    exact ⟨st', lc', dr, ch', oth, a, b, c⟩
  · obtain ⟨st', dr', oth', a, b, c⟩ := mv_num (cn := cn) (ck := ck) (fp := fp) (pg := pg) (ob := ob) (hr := hr) (sp := sp) (ix := ix) (sz := sz) (pf := pf) (sc := sc) (ye := ye) (yj := yj) (st := st) (kd := kd) (pl := pl) (wd := wd) (tm := tm) (dg := dg) (dc := dc) (ss := ss) (pc := pc) (op := op) (ox := ox) (oy := oy) (oz := oz) (ps := ps) (jp := jp) (oi := oi) (pa := pa) (pt := pt) (sh := sh) (lc := lc) (rc := rc) (dr := dr) (ln := ln) (sn := sn) (sd := sd) (ch := ch) (oth := oth) (lw := lw) (hg := hg) (le := le) (bk := bk) (fm := fm) (vy := vy) ok O hj R hx (by omega)
    exact ⟨st', lc, dr', ch, oth', a, b, c⟩
end
end
section
/-! one step, by its code -/
def sh_H (n h p c t o : Nat) (ix sz yj x y z : Int32) (st kd pl wd tm dg dc ss pc ln sn sd op ox oy oz ps jp pa pt lw hg le bk fm vy : Nat → Int32) : Prop :=
  n ≤ 48 ∧ h < n ∧ p ≤ 6 ∧ t < 500 ∧ c ≤ 12 * t ∧ (sz = 0 ∨ sz = 1) ∧ st_ok st ∧ it_A kd pl wd tm dg dc ss pc ln sn sd ∧ rl_P op ox oy oz kd ps jp n ∧ rn_F op ox oy oz pa pt lw hg le bk fm vy n p ∧ ag_al yj h p hg ps op n ∧
  (op h = nI o ∧ ox h = x ∧ oy h = y ∧ oz h = z) ∧ ft_G kd (tb_z op n) o x y z ∧ ¬ ms_B ix kd tm o x y
theorem fs_i {kd : Nat → Int32} {x s : Int32} (hs : ¬ s = 0) (h : ft_s kd x s) : ft_i kd x := by
  obtain ⟨j, hj, e, w⟩ := h
  exact ⟨j, hj, e, fun z => hs (w.symm.trans z)⟩
theorem fc_i {kd : Nat → Int32} {x : Int32} (h : ft_c kd x) : ft_i kd x := h.elim (fs_i (by decide)) (fs_i (by decide))
theorem fs_K {kd pl wd tm dg dc ss pc ln sn sd : Nat → Int32} {j K A W T D B S L : Nat} {s : Nat} (hj : j < 12) (hs : s ≤ 3) (h : ft_s kd (nI j) (nI s)) (R : it_R kd pl wd tm dg dc ss pc ln sn sd j K A W T D B S L) : K = s := by
  obtain ⟨i, hi, e, w⟩ := h
  have k2 := R.2.1.2.1
  rw [nI_eq (by omega) (by omega)] at e
  subst e
  rw [R.1.1] at w
  exact (nI_eq (by omega) (by omega)).mp w
theorem od_ex {ix : Int32} {st kd pl wd tm dg dc ss pc ln sn sd : Nat → Int32} {x z : Int32} (hA : it_A kd pl wd tm dg dc ss pc ln sn sd) (hx : x = 16 ∨ ft_i kd x) (hm : ¬ ms_P ix kd tm x) : ∃ V d, od_P ix st kd pl wd tm dg dc ss pc ln sn sd x z V d := by
  rcases hx with rfl | hx
  · exact ⟨_, _, Or.inl ⟨rfl, rfl, rfl⟩⟩
  · obtain ⟨j, K, A, W, T, D, B, S, L, e, hj, rfl, R, hX⟩ := ac_ex hA hx hm
    exact ⟨_, _, Or.inr ⟨j, K, A, W, T, D, B, S, L, e, hj, rfl, R, hX, rfl, rfl⟩⟩
section
variable {cn ck fp pg ob hr sp ix sz pf sc ye yj : Int32}
variable {st kd pl wd tm dg dc ss pc op ox oy oz ps jp oi pa pt sh lc rc dr ln sn sd ch oth lw hg le bk fm vy : Nat → Int32}
variable {n h p c t : Nat} {x y z o : Int32}
theorem yc_320 {post : SY → Prop} (h18 : ¬ o = 18) (h19 : ¬ o = 19) (h20 : ¬ o = 20) (h21 : ¬ o = 21) (h22 : ¬ o = 22) (H : post (cn, fp, ck, pf, hr + 1, sp, ix, sc, ye, sz, yj, st, kd, pl, ln, dc, tm, sn, sd, op, ox, oy, oz, sh, ch, oth, lw, hg, le, bk, fm, vy)) : wY_step_320 post o x y z cn fp ck pf hr sp ix sc ye sz yj st kd pl ln dc tm sn sd op ox oy oz sh ch oth lw hg le bk fm vy :=
  br_f h18 (br_f h19 (br_f h20 (br_f h21 (br_f h22 (nm_e H)))))
theorem yc_280 {post : SY → Prop} (h13 : ¬ o = 13) (h17 : ¬ o = 17) (h18 : ¬ o = 18) (h19 : ¬ o = 19) (h20 : ¬ o = 20) (h21 : ¬ o = 21) (h22 : ¬ o = 22) (H : post (cn, fp, ck, pf, hr + 1, sp, ix, sc, ye, sz, yj, st, kd, pl, ln, dc, tm, sn, sd, op, ox, oy, oz, sh, ch, oth, lw, hg, le, bk, fm, vy)) : wY_step_280 post o x y z cn fp ck pf hr sp ix sc ye sz yj st kd pl ln dc tm sn sd op ox oy oz sh ch oth lw hg le bk fm vy :=
  br_f h13 (br_f h17 (yc_320 h18 h19 h20 h21 h22 H))
theorem yc_215 {post : SY → Prop} (hi : ¬ (10 ≤ o ∧ o ≤ 12)) (H : wY_step_280 post o x y z cn fp ck pf hr sp ix sc ye sz yj st kd pl ln dc tm sn sd op ox oy oz sh ch oth lw hg le bk fm vy) : wY_step_215 post o x y z cn fp ck pf hr sp ix sc ye sz yj st kd pl ln dc tm sn sd op ox oy oz sh ch oth lw hg le bk fm vy := by
  unfold wY_step_215
  exact yi_in (fun a b => absurd ⟨a, b⟩ hi) (fun _ => br_t rfl H)
theorem yc_182 {post : SY → Prop} (hi : ¬ (2 ≤ o ∧ o ≤ 9)) (H : wY_step_215 post o x y z cn fp ck pf hr sp ix sc ye sz yj st kd pl ln dc tm sn sd op ox oy oz sh ch oth lw hg le bk fm vy) : wY_step_182 post o x y z cn fp ck pf hr sp ix sc ye sz yj st kd pl ln dc tm sn sd op ox oy oz sh ch oth lw hg le bk fm vy := by
  unfold wY_step_182
  exact yi_in (fun a b => absurd ⟨a, b⟩ hi) (fun _ => br_t rfl H)
theorem so_range {o : Nat} (ho : o ≤ 22) (hn : n ≤ 48) (hh : h < n) (hp6 : p ≤ 6) (ht : t < 500) (hsz : sz = 0 ∨ sz = 1) (ok : st_ok st) (hA : it_A kd pl wd tm dg dc ss pc ln sn sd) (Pg : rl_P op ox oy oz kd ps jp n) (hal : ag_al yj h p hg ps op n)
    (e1 : op h = nI o) (e2 : ox h = x) (e3 : oy h = y) (e4 : oz h = z) (hxi : 1 ≤ ms_c o → x = 16 ∨ ft_i kd x) (hyi : ms_c o = 2 → ft_i kd y) (hb : ms_B ix kd tm o x y) : so_O t (nI n, 1, fp, pg, ob, nI h, nI t, ix, sz, nI p, nI c, st, kd, pl, wd, tm, dg, dc, ss, pc, op, ox, oy, oz, ps, jp, oi, pa, pt, sh, lc, rc, dr) (nI n, fp, 1, nI p, nI h, nI t, ix, nI c, (-1), sz, yj, st, kd, pl, ln, dc, tm, sn, sd, op, ox, oy, oz, sh, ch, oth, lw, hg, le, bk, fm, vy) := by
  have vh : vp_in (nI h) 48 := vp_in_nI (by omega) (by decide)
  have ch1 : (nI h).toNatClampNeg = h := nI_clamp (by omega)
  have eo : op (nI h).toNatClampNeg = nI o := by rw [ch1, e1]
  have ex : ox (nI h).toNatClampNeg = x := by rw [ch1, e2]
  have ey : oy (nI h).toNatClampNeg = y := by rw [ch1, e3]
  have ez : oz (nI h).toNatClampNeg = z := by rw [ch1, e4]
  refine Or.inl ⟨2, (nI n, 1, fp, pg, ob, nI h, nI (t + 1), ix, sz, nI p, nI c, st, kd, pl, wd, tm, dg, dc, ss, pc, op, ox, oy, oz, ps, jp, oi, pa, pt, sh, lc, rc, dr), (nI n, fp, 1, nI p, nI h, nI (t + 1), ix, nI c, 2, sz, 0, st, kd, pl, ln, dc, tm, sn, sd, op, ox, oy, oz, sh, ch, oth, lw, hg, le, bk, fm, vy), by decide, ⟨⟨rfl, rfl, rfl, rfl, rfl, rfl, rfl, rfl, rfl, rfl, rfl, rfl, rfl, rfl, rfl, rfl, rfl⟩, rl_of hn hsz ok hA Pg rfl⟩, fun post hp => ?_, fun post hp => ?_⟩
  · exact br_t (nI_lt hh (by omega)) (br_t (nI_lt (b := 500) ht (by decide)) (nm_r (nI_1 t) ⟨vh, nm_r eo ⟨vh, nm_r ex ⟨vh, nm_r ey ⟨vh, nm_r ez (xm_tab ho (fun _ => br_f (by decide) hp) (fun w => absurd hb w))⟩⟩⟩⟩))
  · exact yg_step hn hh hp6 ht Pg hal ⟨1, ym_tab (by omega) ho e1 e2 e3 e4 hxi hyi (fun _ => br_t (by decide) hp) (fun w => absurd hb w)⟩
theorem so_0 (H : sh_H n h p c t 0 ix sz yj x y z st kd pl wd tm dg dc ss pc ln sn sd op ox oy oz ps jp pa pt lw hg le bk fm vy) : so_O t (nI n, 1, fp, pg, ob, nI h, nI t, ix, sz, nI p, nI c, st, kd, pl, wd, tm, dg, dc, ss, pc, op, ox, oy, oz, ps, jp, oi, pa, pt, sh, lc, rc, dr) (nI n, fp, 1, nI p, nI h, nI t, ix, nI c, (-1), sz, yj, st, kd, pl, ln, dc, tm, sn, sd, op, ox, oy, oz, sh, ch, oth, lw, hg, le, bk, fm, vy) := by
  obtain ⟨hn, hh, hp6, ht, hc, hsz, ok, hA, Pg, hF, hal, ⟨e1, e2, e3, e4⟩, hft, hnb⟩ := H
  have vh : vp_in (nI h) 48 := vp_in_nI (by omega) (by decide)
  have ch1 : (nI h).toNatClampNeg = h := nI_clamp (by omega)
  have eo : op (nI h).toNatClampNeg = nI 0 := by rw [ch1, e1]
  have ex : ox (nI h).toNatClampNeg = x := by rw [ch1, e2]
  have ey : oy (nI h).toNatClampNeg = y := by rw [ch1, e3]
  have ez : oz (nI h).toNatClampNeg = z := by rw [ch1, e4]
  have hxi : 1 ≤ ms_c 0 → x = 16 ∨ ft_i kd x := (fun w => absurd w (by decide))
  have hyi : ms_c 0 = 2 → ft_i kd y := (fun w => absurd w (by decide))
  obtain ⟨u', v', R', gX, gY⟩ := fg_go (fp := fp) (pg := pg) (ob := ob) (hr := nI h) (ix := ix) (sz := sz) (st := st) (kd := kd) (pl := pl) (wd := wd) (tm := tm) (dg := dg) (dc := dc) (ss := ss) (pc := pc) (op := op) (ox := ox) (oy := oy) (oz := oz) (ps := ps) (jp := jp) (oi := oi) (pa := pa) (pt := pt) (sh := sh) (lc := lc) (rc := rc) (dr := dr) (ln := ln) (sn := sn) (sd := sd) (ch := ch) (oth := oth) (lw := lw) (hg := hg) (le := le) (bk := bk) (fm := fm) (vy := vy) (t := t) (c := c) (h := h + 1) hn (show h + 1 ≤ n by omega) hp6 (by omega) ((show c ≤ 12 * (t + 1) by omega)) hsz ok hA Pg hF
  refine Or.inr ⟨u', v', R', fun post hp => ?_, fun post hp => ?_⟩
  · exact br_t (nI_lt hh (by omega)) (br_t (nI_lt (b := 500) ht (by decide)) (nm_r (nI_1 t) ⟨vh, nm_r eo ⟨vh, nm_r ex ⟨vh, nm_r ey ⟨vh, nm_r ez (xm_tab (o := 0) (by decide) (fun w => absurd w hnb) (fun _ => br_t rfl (nm_r (nI_1 h) (br_t (by decide) (br_t (by decide) (gX post hp))))))⟩⟩⟩⟩))
  · obtain ⟨m, hm⟩ := gY post hp
    exact yg_step hn hh hp6 ht Pg hal ⟨m, ym_tab (o := 0) (by omega) (by decide) e1 e2 e3 e4 hxi hyi (fun w => absurd w hnb) (fun _ => br_f (by decide) (br_f (by decide) (br_f (by decide) (yc_182 (by decide) (yc_215 (by decide) (yc_280 (by decide) (by decide) (by decide) (by decide) (by decide) (by decide) (by decide) (by rw [nI_1]; exact hm)))))))⟩
theorem so_14 (H : sh_H n h p c t 14 ix sz yj x y z st kd pl wd tm dg dc ss pc ln sn sd op ox oy oz ps jp pa pt lw hg le bk fm vy) : so_O t (nI n, 1, fp, pg, ob, nI h, nI t, ix, sz, nI p, nI c, st, kd, pl, wd, tm, dg, dc, ss, pc, op, ox, oy, oz, ps, jp, oi, pa, pt, sh, lc, rc, dr) (nI n, fp, 1, nI p, nI h, nI t, ix, nI c, (-1), sz, yj, st, kd, pl, ln, dc, tm, sn, sd, op, ox, oy, oz, sh, ch, oth, lw, hg, le, bk, fm, vy) := by
  obtain ⟨hn, hh, hp6, ht, hc, hsz, ok, hA, Pg, hF, hal, ⟨e1, e2, e3, e4⟩, hft, hnb⟩ := H
  have vh : vp_in (nI h) 48 := vp_in_nI (by omega) (by decide)
  have ch1 : (nI h).toNatClampNeg = h := nI_clamp (by omega)
  have eo : op (nI h).toNatClampNeg = nI 14 := by rw [ch1, e1]
  have ex : ox (nI h).toNatClampNeg = x := by rw [ch1, e2]
  have ey : oy (nI h).toNatClampNeg = y := by rw [ch1, e3]
  have ez : oz (nI h).toNatClampNeg = z := by rw [ch1, e4]
  have hxi : 1 ≤ ms_c 14 → x = 16 ∨ ft_i kd x := (fun w => absurd w (by decide))
  have hyi : ms_c 14 = 2 → ft_i kd y := (fun w => absurd w (by decide))
  obtain ⟨u', v', R', gX, gY⟩ := fg_go (fp := fp) (pg := pg) (ob := ob) (hr := nI h) (ix := ix) (sz := sz) (st := st) (kd := kd) (pl := pl) (wd := wd) (tm := tm) (dg := dg) (dc := dc) (ss := ss) (pc := pc) (op := op) (ox := ox) (oy := oy) (oz := oz) (ps := ps) (jp := jp) (oi := oi) (pa := pa) (pt := pt) (sh := sh) (lc := lc) (rc := rc) (dr := dr) (ln := ln) (sn := sn) (sd := sd) (ch := ch) (oth := oth) (lw := lw) (hg := hg) (le := le) (bk := bk) (fm := fm) (vy := vy) (t := t) (c := c) (h := h + 1) hn (show h + 1 ≤ n by omega) hp6 (by omega) ((show c ≤ 12 * (t + 1) by omega)) hsz ok hA Pg hF
  refine Or.inr ⟨u', v', R', fun post hp => ?_, fun post hp => ?_⟩
  · exact br_t (nI_lt hh (by omega)) (br_t (nI_lt (b := 500) ht (by decide)) (nm_r (nI_1 t) ⟨vh, nm_r eo ⟨vh, nm_r ex ⟨vh, nm_r ey ⟨vh, nm_r ez (xm_tab (o := 14) (by decide) (fun w => absurd w hnb) (fun _ => br_t rfl (nm_r (nI_1 h) (br_f (by decide) (br_f (by decide) (br_f (by decide) (br_f (by decide) (br_f (by decide) (br_f (by decide) (br_f (by decide) (br_f (by decide) (br_f (by decide) (br_f (by decide) (br_f (by decide) (br_f (by decide) (br_f (by decide) (br_f (by decide) (br_f (by decide) (br_t rfl (br_f (by decide) (br_t (by decide) (gX post hp))))))))))))))))))))))⟩⟩⟩⟩))
  · obtain ⟨m, hm⟩ := gY post hp
    exact yg_step hn hh hp6 ht Pg hal ⟨m, ym_tab (o := 14) (by omega) (by decide) e1 e2 e3 e4 hxi hyi (fun w => absurd w hnb) (fun _ => br_f (by decide) (br_f (by decide) (br_f (by decide) (yc_182 (by decide) (yc_215 (by decide) (yc_280 (by decide) (by decide) (by decide) (by decide) (by decide) (by decide) (by decide) (by rw [nI_1]; exact hm)))))))⟩
theorem so_1 (H : sh_H n h p c t 1 ix sz yj x y z st kd pl wd tm dg dc ss pc ln sn sd op ox oy oz ps jp pa pt lw hg le bk fm vy) : so_O t (nI n, 1, fp, pg, ob, nI h, nI t, ix, sz, nI p, nI c, st, kd, pl, wd, tm, dg, dc, ss, pc, op, ox, oy, oz, ps, jp, oi, pa, pt, sh, lc, rc, dr) (nI n, fp, 1, nI p, nI h, nI t, ix, nI c, (-1), sz, yj, st, kd, pl, ln, dc, tm, sn, sd, op, ox, oy, oz, sh, ch, oth, lw, hg, le, bk, fm, vy) := by
  obtain ⟨hn, hh, hp6, ht, hc, hsz, ok, hA, Pg, hF, hal, ⟨e1, e2, e3, e4⟩, hft, hnb⟩ := H
  have vh : vp_in (nI h) 48 := vp_in_nI (by omega) (by decide)
  have ch1 : (nI h).toNatClampNeg = h := nI_clamp (by omega)
  have eo : op (nI h).toNatClampNeg = nI 1 := by rw [ch1, e1]
  have ex : ox (nI h).toNatClampNeg = x := by rw [ch1, e2]
  have ey : oy (nI h).toNatClampNeg = y := by rw [ch1, e3]
  have ez : oz (nI h).toNatClampNeg = z := by rw [ch1, e4]
  obtain ⟨f1, f2⟩ := hft.1 rfl
  have hxi : 1 ≤ ms_c 1 → x = 16 ∨ ft_i kd x := fun _ => f1
  have hyi : ms_c 1 = 2 → ft_i kd y := fun _ => f2
  obtain ⟨V, d, O⟩ := od_ex (st := st) (z := z) hA f1 (fun w => hnb (Or.inl ⟨by decide, w⟩))
  obtain ⟨j, K, A, W, T, D, B, S, L, e, hj, rfl, R, hX⟩ := ac_ex hA f2 (fun w => hnb (Or.inr ⟨rfl, w⟩))
  obtain ⟨st', lc', dr', ch', oth', ok', mX, mY⟩ := mv_all (cn := nI n) (ck := 1) (fp := fp) (pg := pg) (ob := ob) (hr := nI h) (sp := nI (t + 1)) (ix := ix) (sz := sz) (pf := nI p) (sc := nI c) (ye := -1) (yj := 0) (st := st) (kd := kd) (pl := pl) (wd := wd) (tm := tm) (dg := dg) (dc := dc) (ss := ss) (pc := pc) (op := op) (ox := ox) (oy := oy) (oz := oz) (ps := ps) (jp := jp) (oi := oi) (pa := pa) (pt := pt) (sh := sh) (lc := lc) (rc := rc) (dr := dr) (ln := ln) (sn := sn) (sd := sd) (ch := ch) (oth := oth) (lw := lw) (hg := hg) (le := le) (bk := bk) (fm := fm) (vy := vy) ok O hj R hX
  obtain ⟨u', v', R', gX, gY⟩ := fg_go (fp := fp) (pg := pg) (ob := ob) (hr := nI h) (ix := ix) (sz := sz) (st := st') (kd := kd) (pl := pl) (wd := wd) (tm := tm) (dg := dg) (dc := dc) (ss := ss) (pc := pc) (op := op) (ox := ox) (oy := oy) (oz := oz) (ps := ps) (jp := jp) (oi := oi) (pa := pa) (pt := pt) (sh := sh) (lc := lc') (rc := rc) (dr := dr') (ln := ln) (sn := sn) (sd := sd) (ch := ch') (oth := oth') (lw := lw) (hg := hg) (le := le) (bk := bk) (fm := fm) (vy := vy) (t := t) (c := c) (h := h + 1) hn (show h + 1 ≤ n by omega) hp6 (by omega) ((show c ≤ 12 * (t + 1) by omega)) hsz ok' hA Pg hF
  refine Or.inr ⟨u', v', R', fun post hp => ?_, fun post hp => ?_⟩
  · exact br_t (nI_lt hh (by omega)) (br_t (nI_lt (b := 500) ht (by decide)) (nm_r (nI_1 t) ⟨vh, nm_r eo ⟨vh, nm_r ex ⟨vh, nm_r ey ⟨vh, nm_r ez (xm_tab (o := 1) (by decide) (fun w => absurd w hnb) (fun _ => br_t rfl (nm_r (nI_1 h) (br_f (by decide) (br_f (by decide) (br_t rfl (mX _ (gX post hp))))))))⟩⟩⟩⟩))
  · obtain ⟨m, hm⟩ := gY post hp
    exact yg_step hn hh hp6 ht Pg hal ⟨m, ym_tab (o := 1) (by omega) (by decide) e1 e2 e3 e4 hxi hyi (fun w => absurd w hnb) (fun _ => br_f (by decide) (br_f (by decide) (br_t rfl (mY _ (yc_182 (by decide) (yc_215 (by decide) (yc_280 (by decide) (by decide) (by decide) (by decide) (by decide) (by decide) (by decide) (by rw [nI_1]; exact hm))))))))⟩
theorem so_2 (H : sh_H n h p c t 2 ix sz yj x y z st kd pl wd tm dg dc ss pc ln sn sd op ox oy oz ps jp pa pt lw hg le bk fm vy) : so_O t (nI n, 1, fp, pg, ob, nI h, nI t, ix, sz, nI p, nI c, st, kd, pl, wd, tm, dg, dc, ss, pc, op, ox, oy, oz, ps, jp, oi, pa, pt, sh, lc, rc, dr) (nI n, fp, 1, nI p, nI h, nI t, ix, nI c, (-1), sz, yj, st, kd, pl, ln, dc, tm, sn, sd, op, ox, oy, oz, sh, ch, oth, lw, hg, le, bk, fm, vy) := by
  obtain ⟨hn, hh, hp6, ht, hc, hsz, ok, hA, Pg, hF, hal, ⟨e1, e2, e3, e4⟩, hft, hnb⟩ := H
  have vh : vp_in (nI h) 48 := vp_in_nI (by omega) (by decide)
  have ch1 : (nI h).toNatClampNeg = h := nI_clamp (by omega)
  have eo : op (nI h).toNatClampNeg = nI 2 := by rw [ch1, e1]
  have ex : ox (nI h).toNatClampNeg = x := by rw [ch1, e2]
  have ey : oy (nI h).toNatClampNeg = y := by rw [ch1, e3]
  have ez : oz (nI h).toNatClampNeg = z := by rw [ch1, e4]
  obtain ⟨f1, f2⟩ := hft.2.1 (by decide) (by decide)
  have f3 := fs_i (by decide) f2
  have f0 : x = 16 ∨ ft_i kd x := f1.imp id (fs_i (by decide))
  have hxi : 1 ≤ ms_c 2 → x = 16 ∨ ft_i kd x := fun _ => f0
  have hyi : ms_c 2 = 2 → ft_i kd y := fun _ => f3
  obtain ⟨V, d, O⟩ := od_ex (st := st) (z := z) hA f0 (fun w => hnb (Or.inl ⟨by decide, w⟩))
  obtain ⟨j, K, A, W, T, D, B, S, L, e, hj, rfl, R, hX⟩ := ac_ex hA f3 (fun w => hnb (Or.inr ⟨rfl, w⟩))
  obtain ⟨st', dr', oth', sz', ok', hsz', mX, mY⟩ := cq_2 (cn := nI n) (ck := 1) (fp := fp) (pg := pg) (ob := ob) (hr := nI h) (sp := nI (t + 1)) (ix := ix) (sz := sz) (pf := nI p) (sc := nI c) (ye := -1) (yj := 0) (st := st) (kd := kd) (pl := pl) (wd := wd) (tm := tm) (dg := dg) (dc := dc) (ss := ss) (pc := pc) (op := op) (ox := ox) (oy := oy) (oz := oz) (ps := ps) (jp := jp) (oi := oi) (pa := pa) (pt := pt) (sh := sh) (lc := lc) (rc := rc) (dr := dr) (ln := ln) (sn := sn) (sd := sd) (ch := ch) (oth := oth) (lw := lw) (hg := hg) (le := le) (bk := bk) (fm := fm) (vy := vy) ok O hj R hX (fs_K (s := 1) hj (by omega) f2 R)
  obtain ⟨u', v', R', gX, gY⟩ := fg_go (fp := fp) (pg := pg) (ob := ob) (hr := nI h) (ix := ix) (sz := sz') (st := st') (kd := kd) (pl := pl) (wd := wd) (tm := tm) (dg := dg) (dc := dc) (ss := ss) (pc := pc) (op := op) (ox := ox) (oy := oy) (oz := oz) (ps := ps) (jp := jp) (oi := oi) (pa := pa) (pt := pt) (sh := sh) (lc := lc) (rc := rc) (dr := dr') (ln := ln) (sn := sn) (sd := sd) (ch := ch) (oth := oth') (lw := lw) (hg := hg) (le := le) (bk := bk) (fm := fm) (vy := vy) (t := t) (c := c) (h := h + 1) hn (show h + 1 ≤ n by omega) hp6 (by omega) ((show c ≤ 12 * (t + 1) by omega)) hsz' ok' hA Pg hF
  refine Or.inr ⟨u', v', R', fun post hp => ?_, fun post hp => ?_⟩
  · exact br_t (nI_lt hh (by omega)) (br_t (nI_lt (b := 500) ht (by decide)) (nm_r (nI_1 t) ⟨vh, nm_r eo ⟨vh, nm_r ex ⟨vh, nm_r ey ⟨vh, nm_r ez (xm_tab (o := 2) (by decide) (fun w => absurd w hnb) (fun _ => br_t rfl (nm_r (nI_1 h) (br_f (by decide) (br_f (by decide) (br_f (by decide) (br_t rfl (br_f (by decide) (br_f (by decide) (mX _ (gX post hp)))))))))))⟩⟩⟩⟩))
  · obtain ⟨m, hm⟩ := gY post hp
    exact yg_step hn hh hp6 ht Pg hal ⟨m, ym_tab (o := 2) (by omega) (by decide) e1 e2 e3 e4 hxi hyi (fun w => absurd w hnb) (fun _ => by
      refine br_f (by decide) (br_f (by decide) (br_f (by decide) ?_))
      unfold wY_step_182
      refine yi_in (fun _ _ => br_f (by decide) ⟨by decide, ?_⟩) (fun w => absurd ⟨by decide, by decide⟩ w)
      rw [show ((nI 2 - 2) - (nI 2 - 2) / 4 * 4 : Int32) = 0 from by decide]
      exact br_t (by decide) (mY _ (yc_215 (by decide) (yc_280 (by decide) (by decide) (by decide) (by decide) (by decide) (by decide) (by decide) (by rw [nI_1]; exact hm)))))⟩
theorem so_3 (H : sh_H n h p c t 3 ix sz yj x y z st kd pl wd tm dg dc ss pc ln sn sd op ox oy oz ps jp pa pt lw hg le bk fm vy) : so_O t (nI n, 1, fp, pg, ob, nI h, nI t, ix, sz, nI p, nI c, st, kd, pl, wd, tm, dg, dc, ss, pc, op, ox, oy, oz, ps, jp, oi, pa, pt, sh, lc, rc, dr) (nI n, fp, 1, nI p, nI h, nI t, ix, nI c, (-1), sz, yj, st, kd, pl, ln, dc, tm, sn, sd, op, ox, oy, oz, sh, ch, oth, lw, hg, le, bk, fm, vy) := by
  obtain ⟨hn, hh, hp6, ht, hc, hsz, ok, hA, Pg, hF, hal, ⟨e1, e2, e3, e4⟩, hft, hnb⟩ := H
  have vh : vp_in (nI h) 48 := vp_in_nI (by omega) (by decide)
  have ch1 : (nI h).toNatClampNeg = h := nI_clamp (by omega)
  have eo : op (nI h).toNatClampNeg = nI 3 := by rw [ch1, e1]
  have ex : ox (nI h).toNatClampNeg = x := by rw [ch1, e2]
  have ey : oy (nI h).toNatClampNeg = y := by rw [ch1, e3]
  have ez : oz (nI h).toNatClampNeg = z := by rw [ch1, e4]
  obtain ⟨f1, f2⟩ := hft.2.1 (by decide) (by decide)
  have f3 := fs_i (by decide) f2
  have f0 : x = 16 ∨ ft_i kd x := f1.imp id (fs_i (by decide))
  have hxi : 1 ≤ ms_c 3 → x = 16 ∨ ft_i kd x := fun _ => f0
  have hyi : ms_c 3 = 2 → ft_i kd y := fun _ => f3
  obtain ⟨V, d, O⟩ := od_ex (st := st) (z := z) hA f0 (fun w => hnb (Or.inl ⟨by decide, w⟩))
  obtain ⟨j, K, A, W, T, D, B, S, L, e, hj, rfl, R, hX⟩ := ac_ex hA f3 (fun w => hnb (Or.inr ⟨rfl, w⟩))
  obtain ⟨st', dr', oth', sz', ok', hsz', mX, mY⟩ := cq_3 (cn := nI n) (ck := 1) (fp := fp) (pg := pg) (ob := ob) (hr := nI h) (sp := nI (t + 1)) (ix := ix) (sz := sz) (pf := nI p) (sc := nI c) (ye := -1) (yj := 0) (st := st) (kd := kd) (pl := pl) (wd := wd) (tm := tm) (dg := dg) (dc := dc) (ss := ss) (pc := pc) (op := op) (ox := ox) (oy := oy) (oz := oz) (ps := ps) (jp := jp) (oi := oi) (pa := pa) (pt := pt) (sh := sh) (lc := lc) (rc := rc) (dr := dr) (ln := ln) (sn := sn) (sd := sd) (ch := ch) (oth := oth) (lw := lw) (hg := hg) (le := le) (bk := bk) (fm := fm) (vy := vy) ok O hj R hX (fs_K (s := 1) hj (by omega) f2 R)
  obtain ⟨u', v', R', gX, gY⟩ := fg_go (fp := fp) (pg := pg) (ob := ob) (hr := nI h) (ix := ix) (sz := sz') (st := st') (kd := kd) (pl := pl) (wd := wd) (tm := tm) (dg := dg) (dc := dc) (ss := ss) (pc := pc) (op := op) (ox := ox) (oy := oy) (oz := oz) (ps := ps) (jp := jp) (oi := oi) (pa := pa) (pt := pt) (sh := sh) (lc := lc) (rc := rc) (dr := dr') (ln := ln) (sn := sn) (sd := sd) (ch := ch) (oth := oth') (lw := lw) (hg := hg) (le := le) (bk := bk) (fm := fm) (vy := vy) (t := t) (c := c) (h := h + 1) hn (show h + 1 ≤ n by omega) hp6 (by omega) ((show c ≤ 12 * (t + 1) by omega)) hsz' ok' hA Pg hF
  refine Or.inr ⟨u', v', R', fun post hp => ?_, fun post hp => ?_⟩
  · exact br_t (nI_lt hh (by omega)) (br_t (nI_lt (b := 500) ht (by decide)) (nm_r (nI_1 t) ⟨vh, nm_r eo ⟨vh, nm_r ex ⟨vh, nm_r ey ⟨vh, nm_r ez (xm_tab (o := 3) (by decide) (fun w => absurd w hnb) (fun _ => br_t rfl (nm_r (nI_1 h) (br_f (by decide) (br_f (by decide) (br_f (by decide) (br_f (by decide) (br_t rfl (br_f (by decide) (br_f (by decide) (mX _ (gX post hp))))))))))))⟩⟩⟩⟩))
  · obtain ⟨m, hm⟩ := gY post hp
    exact yg_step hn hh hp6 ht Pg hal ⟨m, ym_tab (o := 3) (by omega) (by decide) e1 e2 e3 e4 hxi hyi (fun w => absurd w hnb) (fun _ => by
      refine br_f (by decide) (br_f (by decide) (br_f (by decide) ?_))
      unfold wY_step_182
      refine yi_in (fun _ _ => br_f (by decide) ⟨by decide, ?_⟩) (fun w => absurd ⟨by decide, by decide⟩ w)
      rw [show ((nI 3 - 2) - (nI 3 - 2) / 4 * 4 : Int32) = 1 from by decide]
      exact br_t (by decide) (mY _ (yc_215 (by decide) (yc_280 (by decide) (by decide) (by decide) (by decide) (by decide) (by decide) (by decide) (by rw [nI_1]; exact hm)))))⟩
theorem so_4 (H : sh_H n h p c t 4 ix sz yj x y z st kd pl wd tm dg dc ss pc ln sn sd op ox oy oz ps jp pa pt lw hg le bk fm vy) : so_O t (nI n, 1, fp, pg, ob, nI h, nI t, ix, sz, nI p, nI c, st, kd, pl, wd, tm, dg, dc, ss, pc, op, ox, oy, oz, ps, jp, oi, pa, pt, sh, lc, rc, dr) (nI n, fp, 1, nI p, nI h, nI t, ix, nI c, (-1), sz, yj, st, kd, pl, ln, dc, tm, sn, sd, op, ox, oy, oz, sh, ch, oth, lw, hg, le, bk, fm, vy) := by
  obtain ⟨hn, hh, hp6, ht, hc, hsz, ok, hA, Pg, hF, hal, ⟨e1, e2, e3, e4⟩, hft, hnb⟩ := H
  have vh : vp_in (nI h) 48 := vp_in_nI (by omega) (by decide)
  have ch1 : (nI h).toNatClampNeg = h := nI_clamp (by omega)
  have eo : op (nI h).toNatClampNeg = nI 4 := by rw [ch1, e1]
  have ex : ox (nI h).toNatClampNeg = x := by rw [ch1, e2]
  have ey : oy (nI h).toNatClampNeg = y := by rw [ch1, e3]
  have ez : oz (nI h).toNatClampNeg = z := by rw [ch1, e4]
  obtain ⟨f1, f2⟩ := hft.2.1 (by decide) (by decide)
  have f3 := fs_i (by decide) f2
  have f0 : x = 16 ∨ ft_i kd x := f1.imp id (fs_i (by decide))
  have hxi : 1 ≤ ms_c 4 → x = 16 ∨ ft_i kd x := fun _ => f0
  have hyi : ms_c 4 = 2 → ft_i kd y := fun _ => f3
  obtain ⟨V, d, O⟩ := od_ex (st := st) (z := z) hA f0 (fun w => hnb (Or.inl ⟨by decide, w⟩))
  obtain ⟨j, K, A, W, T, D, B, S, L, e, hj, rfl, R, hX⟩ := ac_ex hA f3 (fun w => hnb (Or.inr ⟨rfl, w⟩))
  obtain ⟨st', dr', oth', sz', ok', hsz', mX, mY⟩ := cq_4 (cn := nI n) (ck := 1) (fp := fp) (pg := pg) (ob := ob) (hr := nI h) (sp := nI (t + 1)) (ix := ix) (sz := sz) (pf := nI p) (sc := nI c) (ye := -1) (yj := 0) (st := st) (kd := kd) (pl := pl) (wd := wd) (tm := tm) (dg := dg) (dc := dc) (ss := ss) (pc := pc) (op := op) (ox := ox) (oy := oy) (oz := oz) (ps := ps) (jp := jp) (oi := oi) (pa := pa) (pt := pt) (sh := sh) (lc := lc) (rc := rc) (dr := dr) (ln := ln) (sn := sn) (sd := sd) (ch := ch) (oth := oth) (lw := lw) (hg := hg) (le := le) (bk := bk) (fm := fm) (vy := vy) ok O hj R hX (fs_K (s := 1) hj (by omega) f2 R)
  obtain ⟨u', v', R', gX, gY⟩ := fg_go (fp := fp) (pg := pg) (ob := ob) (hr := nI h) (ix := ix) (sz := sz') (st := st') (kd := kd) (pl := pl) (wd := wd) (tm := tm) (dg := dg) (dc := dc) (ss := ss) (pc := pc) (op := op) (ox := ox) (oy := oy) (oz := oz) (ps := ps) (jp := jp) (oi := oi) (pa := pa) (pt := pt) (sh := sh) (lc := lc) (rc := rc) (dr := dr') (ln := ln) (sn := sn) (sd := sd) (ch := ch) (oth := oth') (lw := lw) (hg := hg) (le := le) (bk := bk) (fm := fm) (vy := vy) (t := t) (c := c) (h := h + 1) hn (show h + 1 ≤ n by omega) hp6 (by omega) ((show c ≤ 12 * (t + 1) by omega)) hsz' ok' hA Pg hF
  refine Or.inr ⟨u', v', R', fun post hp => ?_, fun post hp => ?_⟩
  · exact br_t (nI_lt hh (by omega)) (br_t (nI_lt (b := 500) ht (by decide)) (nm_r (nI_1 t) ⟨vh, nm_r eo ⟨vh, nm_r ex ⟨vh, nm_r ey ⟨vh, nm_r ez (xm_tab (o := 4) (by decide) (fun w => absurd w hnb) (fun _ => br_t rfl (nm_r (nI_1 h) (br_f (by decide) (br_f (by decide) (br_f (by decide) (br_f (by decide) (br_f (by decide) (br_t rfl (br_f (by decide) (br_f (by decide) (mX _ (gX post hp)))))))))))))⟩⟩⟩⟩))
  · obtain ⟨m, hm⟩ := gY post hp
    exact yg_step hn hh hp6 ht Pg hal ⟨m, ym_tab (o := 4) (by omega) (by decide) e1 e2 e3 e4 hxi hyi (fun w => absurd w hnb) (fun _ => by
      refine br_f (by decide) (br_f (by decide) (br_f (by decide) ?_))
      unfold wY_step_182
      refine yi_in (fun _ _ => br_f (by decide) ⟨by decide, ?_⟩) (fun w => absurd ⟨by decide, by decide⟩ w)
      rw [show ((nI 4 - 2) - (nI 4 - 2) / 4 * 4 : Int32) = 2 from by decide]
      exact br_t (by decide) (mY _ (yc_215 (by decide) (yc_280 (by decide) (by decide) (by decide) (by decide) (by decide) (by decide) (by decide) (by rw [nI_1]; exact hm)))))⟩
theorem so_5 (H : sh_H n h p c t 5 ix sz yj x y z st kd pl wd tm dg dc ss pc ln sn sd op ox oy oz ps jp pa pt lw hg le bk fm vy) : so_O t (nI n, 1, fp, pg, ob, nI h, nI t, ix, sz, nI p, nI c, st, kd, pl, wd, tm, dg, dc, ss, pc, op, ox, oy, oz, ps, jp, oi, pa, pt, sh, lc, rc, dr) (nI n, fp, 1, nI p, nI h, nI t, ix, nI c, (-1), sz, yj, st, kd, pl, ln, dc, tm, sn, sd, op, ox, oy, oz, sh, ch, oth, lw, hg, le, bk, fm, vy) := by
  obtain ⟨hn, hh, hp6, ht, hc, hsz, ok, hA, Pg, hF, hal, ⟨e1, e2, e3, e4⟩, hft, hnb⟩ := H
  have vh : vp_in (nI h) 48 := vp_in_nI (by omega) (by decide)
  have ch1 : (nI h).toNatClampNeg = h := nI_clamp (by omega)
  have eo : op (nI h).toNatClampNeg = nI 5 := by rw [ch1, e1]
  have ex : ox (nI h).toNatClampNeg = x := by rw [ch1, e2]
  have ey : oy (nI h).toNatClampNeg = y := by rw [ch1, e3]
  have ez : oz (nI h).toNatClampNeg = z := by rw [ch1, e4]
  obtain ⟨f1, f2⟩ := hft.2.1 (by decide) (by decide)
  have f3 := fs_i (by decide) f2
  have f0 : x = 16 ∨ ft_i kd x := f1.imp id (fs_i (by decide))
  have hxi : 1 ≤ ms_c 5 → x = 16 ∨ ft_i kd x := fun _ => f0
  have hyi : ms_c 5 = 2 → ft_i kd y := fun _ => f3
  obtain ⟨V, d, O⟩ := od_ex (st := st) (z := z) hA f0 (fun w => hnb (Or.inl ⟨by decide, w⟩))
  obtain ⟨j, K, A, W, T, D, B, S, L, e, hj, rfl, R, hX⟩ := ac_ex hA f3 (fun w => hnb (Or.inr ⟨rfl, w⟩))
  obtain ⟨st', dr', oth', sz', ok', hsz', mX, mY⟩ := cq_5 (cn := nI n) (ck := 1) (fp := fp) (pg := pg) (ob := ob) (hr := nI h) (sp := nI (t + 1)) (ix := ix) (sz := sz) (pf := nI p) (sc := nI c) (ye := -1) (yj := 0) (st := st) (kd := kd) (pl := pl) (wd := wd) (tm := tm) (dg := dg) (dc := dc) (ss := ss) (pc := pc) (op := op) (ox := ox) (oy := oy) (oz := oz) (ps := ps) (jp := jp) (oi := oi) (pa := pa) (pt := pt) (sh := sh) (lc := lc) (rc := rc) (dr := dr) (ln := ln) (sn := sn) (sd := sd) (ch := ch) (oth := oth) (lw := lw) (hg := hg) (le := le) (bk := bk) (fm := fm) (vy := vy) ok O hj R hX (fs_K (s := 1) hj (by omega) f2 R)
  obtain ⟨u', v', R', gX, gY⟩ := fg_go (fp := fp) (pg := pg) (ob := ob) (hr := nI h) (ix := ix) (sz := sz') (st := st') (kd := kd) (pl := pl) (wd := wd) (tm := tm) (dg := dg) (dc := dc) (ss := ss) (pc := pc) (op := op) (ox := ox) (oy := oy) (oz := oz) (ps := ps) (jp := jp) (oi := oi) (pa := pa) (pt := pt) (sh := sh) (lc := lc) (rc := rc) (dr := dr') (ln := ln) (sn := sn) (sd := sd) (ch := ch) (oth := oth') (lw := lw) (hg := hg) (le := le) (bk := bk) (fm := fm) (vy := vy) (t := t) (c := c) (h := h + 1) hn (show h + 1 ≤ n by omega) hp6 (by omega) ((show c ≤ 12 * (t + 1) by omega)) hsz' ok' hA Pg hF
  refine Or.inr ⟨u', v', R', fun post hp => ?_, fun post hp => ?_⟩
  · exact br_t (nI_lt hh (by omega)) (br_t (nI_lt (b := 500) ht (by decide)) (nm_r (nI_1 t) ⟨vh, nm_r eo ⟨vh, nm_r ex ⟨vh, nm_r ey ⟨vh, nm_r ez (xm_tab (o := 5) (by decide) (fun w => absurd w hnb) (fun _ => br_t rfl (nm_r (nI_1 h) (br_f (by decide) (br_f (by decide) (br_f (by decide) (br_f (by decide) (br_f (by decide) (br_f (by decide) (br_t rfl (br_f (by decide) (br_f (by decide) (mX _ (gX post hp))))))))))))))⟩⟩⟩⟩))
  · obtain ⟨m, hm⟩ := gY post hp
    exact yg_step hn hh hp6 ht Pg hal ⟨m, ym_tab (o := 5) (by omega) (by decide) e1 e2 e3 e4 hxi hyi (fun w => absurd w hnb) (fun _ => by
      refine br_f (by decide) (br_f (by decide) (br_f (by decide) ?_))
      unfold wY_step_182
      refine yi_in (fun _ _ => br_f (by decide) ⟨by decide, ?_⟩) (fun w => absurd ⟨by decide, by decide⟩ w)
      rw [show ((nI 5 - 2) - (nI 5 - 2) / 4 * 4 : Int32) = 3 from by decide]
      exact br_t (by decide) (mY _ (yc_215 (by decide) (yc_280 (by decide) (by decide) (by decide) (by decide) (by decide) (by decide) (by decide) (by rw [nI_1]; exact hm)))))⟩
theorem so_6 (H : sh_H n h p c t 6 ix sz yj x y z st kd pl wd tm dg dc ss pc ln sn sd op ox oy oz ps jp pa pt lw hg le bk fm vy) : so_O t (nI n, 1, fp, pg, ob, nI h, nI t, ix, sz, nI p, nI c, st, kd, pl, wd, tm, dg, dc, ss, pc, op, ox, oy, oz, ps, jp, oi, pa, pt, sh, lc, rc, dr) (nI n, fp, 1, nI p, nI h, nI t, ix, nI c, (-1), sz, yj, st, kd, pl, ln, dc, tm, sn, sd, op, ox, oy, oz, sh, ch, oth, lw, hg, le, bk, fm, vy) := by
  obtain ⟨hn, hh, hp6, ht, hc, hsz, ok, hA, Pg, hF, hal, ⟨e1, e2, e3, e4⟩, hft, hnb⟩ := H
  have vh : vp_in (nI h) 48 := vp_in_nI (by omega) (by decide)
  have ch1 : (nI h).toNatClampNeg = h := nI_clamp (by omega)
  have eo : op (nI h).toNatClampNeg = nI 6 := by rw [ch1, e1]
  have ex : ox (nI h).toNatClampNeg = x := by rw [ch1, e2]
  have ey : oy (nI h).toNatClampNeg = y := by rw [ch1, e3]
  have ez : oz (nI h).toNatClampNeg = z := by rw [ch1, e4]
  obtain ⟨f1, f2⟩ := hft.2.1 (by decide) (by decide)
  have f3 := fs_i (by decide) f2
  have f0 : x = 16 ∨ ft_i kd x := f1.imp id (fs_i (by decide))
  have hxi : 1 ≤ ms_c 6 → x = 16 ∨ ft_i kd x := fun _ => f0
  have hyi : ms_c 6 = 2 → ft_i kd y := fun _ => f3
  obtain ⟨V, d, O⟩ := od_ex (st := st) (z := z) hA f0 (fun w => hnb (Or.inl ⟨by decide, w⟩))
  obtain ⟨j, K, A, W, T, D, B, S, L, e, hj, rfl, R, hX⟩ := ac_ex hA f3 (fun w => hnb (Or.inr ⟨rfl, w⟩))
  obtain ⟨st', dr', oth', sz', ok', hsz', mX, mY⟩ := cq_6 (cn := nI n) (ck := 1) (fp := fp) (pg := pg) (ob := ob) (hr := nI h) (sp := nI (t + 1)) (ix := ix) (sz := sz) (pf := nI p) (sc := nI c) (ye := -1) (yj := 0) (st := st) (kd := kd) (pl := pl) (wd := wd) (tm := tm) (dg := dg) (dc := dc) (ss := ss) (pc := pc) (op := op) (ox := ox) (oy := oy) (oz := oz) (ps := ps) (jp := jp) (oi := oi) (pa := pa) (pt := pt) (sh := sh) (lc := lc) (rc := rc) (dr := dr) (ln := ln) (sn := sn) (sd := sd) (ch := ch) (oth := oth) (lw := lw) (hg := hg) (le := le) (bk := bk) (fm := fm) (vy := vy) ok O hj R hX (fs_K (s := 1) hj (by omega) f2 R)
  obtain ⟨u', v', R', gX, gY⟩ := fg_go (fp := fp) (pg := pg) (ob := ob) (hr := nI h) (ix := ix) (sz := sz') (st := st') (kd := kd) (pl := pl) (wd := wd) (tm := tm) (dg := dg) (dc := dc) (ss := ss) (pc := pc) (op := op) (ox := ox) (oy := oy) (oz := oz) (ps := ps) (jp := jp) (oi := oi) (pa := pa) (pt := pt) (sh := sh) (lc := lc) (rc := rc) (dr := dr') (ln := ln) (sn := sn) (sd := sd) (ch := ch) (oth := oth') (lw := lw) (hg := hg) (le := le) (bk := bk) (fm := fm) (vy := vy) (t := t) (c := c) (h := h + 1) hn (show h + 1 ≤ n by omega) hp6 (by omega) ((show c ≤ 12 * (t + 1) by omega)) hsz' ok' hA Pg hF
  refine Or.inr ⟨u', v', R', fun post hp => ?_, fun post hp => ?_⟩
  · exact br_t (nI_lt hh (by omega)) (br_t (nI_lt (b := 500) ht (by decide)) (nm_r (nI_1 t) ⟨vh, nm_r eo ⟨vh, nm_r ex ⟨vh, nm_r ey ⟨vh, nm_r ez (xm_tab (o := 6) (by decide) (fun w => absurd w hnb) (fun _ => br_t rfl (nm_r (nI_1 h) (br_f (by decide) (br_f (by decide) (br_f (by decide) (br_f (by decide) (br_f (by decide) (br_f (by decide) (br_f (by decide) (br_t rfl (br_f (by decide) (br_f (by decide) (mX _ (gX post hp)))))))))))))))⟩⟩⟩⟩))
  · obtain ⟨m, hm⟩ := gY post hp
    exact yg_step hn hh hp6 ht Pg hal ⟨m, ym_tab (o := 6) (by omega) (by decide) e1 e2 e3 e4 hxi hyi (fun w => absurd w hnb) (fun _ => by
      refine br_f (by decide) (br_f (by decide) (br_f (by decide) ?_))
      unfold wY_step_182
      refine yi_in (fun _ _ => br_f (by decide) ⟨by decide, ?_⟩) (fun w => absurd ⟨by decide, by decide⟩ w)
      rw [show ((nI 6 - 2) - (nI 6 - 2) / 4 * 4 : Int32) = 0 from by decide]
      exact br_f (by decide) (mY _ (yc_215 (by decide) (yc_280 (by decide) (by decide) (by decide) (by decide) (by decide) (by decide) (by decide) (by rw [nI_1]; exact hm)))))⟩
theorem so_7 (H : sh_H n h p c t 7 ix sz yj x y z st kd pl wd tm dg dc ss pc ln sn sd op ox oy oz ps jp pa pt lw hg le bk fm vy) : so_O t (nI n, 1, fp, pg, ob, nI h, nI t, ix, sz, nI p, nI c, st, kd, pl, wd, tm, dg, dc, ss, pc, op, ox, oy, oz, ps, jp, oi, pa, pt, sh, lc, rc, dr) (nI n, fp, 1, nI p, nI h, nI t, ix, nI c, (-1), sz, yj, st, kd, pl, ln, dc, tm, sn, sd, op, ox, oy, oz, sh, ch, oth, lw, hg, le, bk, fm, vy) := by
  obtain ⟨hn, hh, hp6, ht, hc, hsz, ok, hA, Pg, hF, hal, ⟨e1, e2, e3, e4⟩, hft, hnb⟩ := H
  have vh : vp_in (nI h) 48 := vp_in_nI (by omega) (by decide)
  have ch1 : (nI h).toNatClampNeg = h := nI_clamp (by omega)
  have eo : op (nI h).toNatClampNeg = nI 7 := by rw [ch1, e1]
  have ex : ox (nI h).toNatClampNeg = x := by rw [ch1, e2]
  have ey : oy (nI h).toNatClampNeg = y := by rw [ch1, e3]
  have ez : oz (nI h).toNatClampNeg = z := by rw [ch1, e4]
  obtain ⟨f1, f2⟩ := hft.2.1 (by decide) (by decide)
  have f3 := fs_i (by decide) f2
  have f0 : x = 16 ∨ ft_i kd x := f1.imp id (fs_i (by decide))
  have hxi : 1 ≤ ms_c 7 → x = 16 ∨ ft_i kd x := fun _ => f0
  have hyi : ms_c 7 = 2 → ft_i kd y := fun _ => f3
  obtain ⟨V, d, O⟩ := od_ex (st := st) (z := z) hA f0 (fun w => hnb (Or.inl ⟨by decide, w⟩))
  obtain ⟨j, K, A, W, T, D, B, S, L, e, hj, rfl, R, hX⟩ := ac_ex hA f3 (fun w => hnb (Or.inr ⟨rfl, w⟩))
  obtain ⟨st', dr', oth', sz', ok', hsz', mX, mY⟩ := cq_7 (cn := nI n) (ck := 1) (fp := fp) (pg := pg) (ob := ob) (hr := nI h) (sp := nI (t + 1)) (ix := ix) (sz := sz) (pf := nI p) (sc := nI c) (ye := -1) (yj := 0) (st := st) (kd := kd) (pl := pl) (wd := wd) (tm := tm) (dg := dg) (dc := dc) (ss := ss) (pc := pc) (op := op) (ox := ox) (oy := oy) (oz := oz) (ps := ps) (jp := jp) (oi := oi) (pa := pa) (pt := pt) (sh := sh) (lc := lc) (rc := rc) (dr := dr) (ln := ln) (sn := sn) (sd := sd) (ch := ch) (oth := oth) (lw := lw) (hg := hg) (le := le) (bk := bk) (fm := fm) (vy := vy) ok O hj R hX (fs_K (s := 1) hj (by omega) f2 R)
  obtain ⟨u', v', R', gX, gY⟩ := fg_go (fp := fp) (pg := pg) (ob := ob) (hr := nI h) (ix := ix) (sz := sz') (st := st') (kd := kd) (pl := pl) (wd := wd) (tm := tm) (dg := dg) (dc := dc) (ss := ss) (pc := pc) (op := op) (ox := ox) (oy := oy) (oz := oz) (ps := ps) (jp := jp) (oi := oi) (pa := pa) (pt := pt) (sh := sh) (lc := lc) (rc := rc) (dr := dr') (ln := ln) (sn := sn) (sd := sd) (ch := ch) (oth := oth') (lw := lw) (hg := hg) (le := le) (bk := bk) (fm := fm) (vy := vy) (t := t) (c := c) (h := h + 1) hn (show h + 1 ≤ n by omega) hp6 (by omega) ((show c ≤ 12 * (t + 1) by omega)) hsz' ok' hA Pg hF
  refine Or.inr ⟨u', v', R', fun post hp => ?_, fun post hp => ?_⟩
  · exact br_t (nI_lt hh (by omega)) (br_t (nI_lt (b := 500) ht (by decide)) (nm_r (nI_1 t) ⟨vh, nm_r eo ⟨vh, nm_r ex ⟨vh, nm_r ey ⟨vh, nm_r ez (xm_tab (o := 7) (by decide) (fun w => absurd w hnb) (fun _ => br_t rfl (nm_r (nI_1 h) (br_f (by decide) (br_f (by decide) (br_f (by decide) (br_f (by decide) (br_f (by decide) (br_f (by decide) (br_f (by decide) (br_f (by decide) (br_t rfl (br_f (by decide) (br_f (by decide) (mX _ (gX post hp))))))))))))))))⟩⟩⟩⟩))
  · obtain ⟨m, hm⟩ := gY post hp
    exact yg_step hn hh hp6 ht Pg hal ⟨m, ym_tab (o := 7) (by omega) (by decide) e1 e2 e3 e4 hxi hyi (fun w => absurd w hnb) (fun _ => by
      refine br_f (by decide) (br_f (by decide) (br_f (by decide) ?_))
      unfold wY_step_182
      refine yi_in (fun _ _ => br_f (by decide) ⟨by decide, ?_⟩) (fun w => absurd ⟨by decide, by decide⟩ w)
      rw [show ((nI 7 - 2) - (nI 7 - 2) / 4 * 4 : Int32) = 1 from by decide]
      exact br_f (by decide) (mY _ (yc_215 (by decide) (yc_280 (by decide) (by decide) (by decide) (by decide) (by decide) (by decide) (by decide) (by rw [nI_1]; exact hm)))))⟩
theorem so_8 (H : sh_H n h p c t 8 ix sz yj x y z st kd pl wd tm dg dc ss pc ln sn sd op ox oy oz ps jp pa pt lw hg le bk fm vy) : so_O t (nI n, 1, fp, pg, ob, nI h, nI t, ix, sz, nI p, nI c, st, kd, pl, wd, tm, dg, dc, ss, pc, op, ox, oy, oz, ps, jp, oi, pa, pt, sh, lc, rc, dr) (nI n, fp, 1, nI p, nI h, nI t, ix, nI c, (-1), sz, yj, st, kd, pl, ln, dc, tm, sn, sd, op, ox, oy, oz, sh, ch, oth, lw, hg, le, bk, fm, vy) := by
  obtain ⟨hn, hh, hp6, ht, hc, hsz, ok, hA, Pg, hF, hal, ⟨e1, e2, e3, e4⟩, hft, hnb⟩ := H
  have vh : vp_in (nI h) 48 := vp_in_nI (by omega) (by decide)
  have ch1 : (nI h).toNatClampNeg = h := nI_clamp (by omega)
  have eo : op (nI h).toNatClampNeg = nI 8 := by rw [ch1, e1]
  have ex : ox (nI h).toNatClampNeg = x := by rw [ch1, e2]
  have ey : oy (nI h).toNatClampNeg = y := by rw [ch1, e3]
  have ez : oz (nI h).toNatClampNeg = z := by rw [ch1, e4]
  obtain ⟨f1, f2⟩ := hft.2.1 (by decide) (by decide)
  have f3 := fs_i (by decide) f2
  have f0 : x = 16 ∨ ft_i kd x := f1.imp id (fs_i (by decide))
  have hxi : 1 ≤ ms_c 8 → x = 16 ∨ ft_i kd x := fun _ => f0
  have hyi : ms_c 8 = 2 → ft_i kd y := fun _ => f3
  obtain ⟨V, d, O⟩ := od_ex (st := st) (z := z) hA f0 (fun w => hnb (Or.inl ⟨by decide, w⟩))
  obtain ⟨j, K, A, W, T, D, B, S, L, e, hj, rfl, R, hX⟩ := ac_ex hA f3 (fun w => hnb (Or.inr ⟨rfl, w⟩))
  obtain ⟨st', dr', oth', sz', ok', hsz', mX, mY⟩ := cq_8 (cn := nI n) (ck := 1) (fp := fp) (pg := pg) (ob := ob) (hr := nI h) (sp := nI (t + 1)) (ix := ix) (sz := sz) (pf := nI p) (sc := nI c) (ye := -1) (yj := 0) (st := st) (kd := kd) (pl := pl) (wd := wd) (tm := tm) (dg := dg) (dc := dc) (ss := ss) (pc := pc) (op := op) (ox := ox) (oy := oy) (oz := oz) (ps := ps) (jp := jp) (oi := oi) (pa := pa) (pt := pt) (sh := sh) (lc := lc) (rc := rc) (dr := dr) (ln := ln) (sn := sn) (sd := sd) (ch := ch) (oth := oth) (lw := lw) (hg := hg) (le := le) (bk := bk) (fm := fm) (vy := vy) ok O hj R hX (fs_K (s := 1) hj (by omega) f2 R)
  obtain ⟨u', v', R', gX, gY⟩ := fg_go (fp := fp) (pg := pg) (ob := ob) (hr := nI h) (ix := ix) (sz := sz') (st := st') (kd := kd) (pl := pl) (wd := wd) (tm := tm) (dg := dg) (dc := dc) (ss := ss) (pc := pc) (op := op) (ox := ox) (oy := oy) (oz := oz) (ps := ps) (jp := jp) (oi := oi) (pa := pa) (pt := pt) (sh := sh) (lc := lc) (rc := rc) (dr := dr') (ln := ln) (sn := sn) (sd := sd) (ch := ch) (oth := oth') (lw := lw) (hg := hg) (le := le) (bk := bk) (fm := fm) (vy := vy) (t := t) (c := c) (h := h + 1) hn (show h + 1 ≤ n by omega) hp6 (by omega) ((show c ≤ 12 * (t + 1) by omega)) hsz' ok' hA Pg hF
  refine Or.inr ⟨u', v', R', fun post hp => ?_, fun post hp => ?_⟩
  · exact br_t (nI_lt hh (by omega)) (br_t (nI_lt (b := 500) ht (by decide)) (nm_r (nI_1 t) ⟨vh, nm_r eo ⟨vh, nm_r ex ⟨vh, nm_r ey ⟨vh, nm_r ez (xm_tab (o := 8) (by decide) (fun w => absurd w hnb) (fun _ => br_t rfl (nm_r (nI_1 h) (br_f (by decide) (br_f (by decide) (br_f (by decide) (br_f (by decide) (br_f (by decide) (br_f (by decide) (br_f (by decide) (br_f (by decide) (br_f (by decide) (br_t rfl (br_f (by decide) (br_f (by decide) (mX _ (gX post hp)))))))))))))))))⟩⟩⟩⟩))
  · obtain ⟨m, hm⟩ := gY post hp
    exact yg_step hn hh hp6 ht Pg hal ⟨m, ym_tab (o := 8) (by omega) (by decide) e1 e2 e3 e4 hxi hyi (fun w => absurd w hnb) (fun _ => by
      refine br_f (by decide) (br_f (by decide) (br_f (by decide) ?_))
      unfold wY_step_182
      refine yi_in (fun _ _ => br_f (by decide) ⟨by decide, ?_⟩) (fun w => absurd ⟨by decide, by decide⟩ w)
      rw [show ((nI 8 - 2) - (nI 8 - 2) / 4 * 4 : Int32) = 2 from by decide]
      exact br_f (by decide) (mY _ (yc_215 (by decide) (yc_280 (by decide) (by decide) (by decide) (by decide) (by decide) (by decide) (by decide) (by rw [nI_1]; exact hm)))))⟩
theorem so_9 (H : sh_H n h p c t 9 ix sz yj x y z st kd pl wd tm dg dc ss pc ln sn sd op ox oy oz ps jp pa pt lw hg le bk fm vy) : so_O t (nI n, 1, fp, pg, ob, nI h, nI t, ix, sz, nI p, nI c, st, kd, pl, wd, tm, dg, dc, ss, pc, op, ox, oy, oz, ps, jp, oi, pa, pt, sh, lc, rc, dr) (nI n, fp, 1, nI p, nI h, nI t, ix, nI c, (-1), sz, yj, st, kd, pl, ln, dc, tm, sn, sd, op, ox, oy, oz, sh, ch, oth, lw, hg, le, bk, fm, vy) := by
  obtain ⟨hn, hh, hp6, ht, hc, hsz, ok, hA, Pg, hF, hal, ⟨e1, e2, e3, e4⟩, hft, hnb⟩ := H
  have vh : vp_in (nI h) 48 := vp_in_nI (by omega) (by decide)
  have ch1 : (nI h).toNatClampNeg = h := nI_clamp (by omega)
  have eo : op (nI h).toNatClampNeg = nI 9 := by rw [ch1, e1]
  have ex : ox (nI h).toNatClampNeg = x := by rw [ch1, e2]
  have ey : oy (nI h).toNatClampNeg = y := by rw [ch1, e3]
  have ez : oz (nI h).toNatClampNeg = z := by rw [ch1, e4]
  obtain ⟨f1, f2⟩ := hft.2.1 (by decide) (by decide)
  have f3 := fs_i (by decide) f2
  have f0 : x = 16 ∨ ft_i kd x := f1.imp id (fs_i (by decide))
  have hxi : 1 ≤ ms_c 9 → x = 16 ∨ ft_i kd x := fun _ => f0
  have hyi : ms_c 9 = 2 → ft_i kd y := fun _ => f3
  obtain ⟨V, d, O⟩ := od_ex (st := st) (z := z) hA f0 (fun w => hnb (Or.inl ⟨by decide, w⟩))
  obtain ⟨j, K, A, W, T, D, B, S, L, e, hj, rfl, R, hX⟩ := ac_ex hA f3 (fun w => hnb (Or.inr ⟨rfl, w⟩))
  obtain ⟨st', dr', oth', sz', ok', hsz', mX, mY⟩ := cq_9 (cn := nI n) (ck := 1) (fp := fp) (pg := pg) (ob := ob) (hr := nI h) (sp := nI (t + 1)) (ix := ix) (sz := sz) (pf := nI p) (sc := nI c) (ye := -1) (yj := 0) (st := st) (kd := kd) (pl := pl) (wd := wd) (tm := tm) (dg := dg) (dc := dc) (ss := ss) (pc := pc) (op := op) (ox := ox) (oy := oy) (oz := oz) (ps := ps) (jp := jp) (oi := oi) (pa := pa) (pt := pt) (sh := sh) (lc := lc) (rc := rc) (dr := dr) (ln := ln) (sn := sn) (sd := sd) (ch := ch) (oth := oth) (lw := lw) (hg := hg) (le := le) (bk := bk) (fm := fm) (vy := vy) ok O hj R hX (fs_K (s := 1) hj (by omega) f2 R)
  obtain ⟨u', v', R', gX, gY⟩ := fg_go (fp := fp) (pg := pg) (ob := ob) (hr := nI h) (ix := ix) (sz := sz') (st := st') (kd := kd) (pl := pl) (wd := wd) (tm := tm) (dg := dg) (dc := dc) (ss := ss) (pc := pc) (op := op) (ox := ox) (oy := oy) (oz := oz) (ps := ps) (jp := jp) (oi := oi) (pa := pa) (pt := pt) (sh := sh) (lc := lc) (rc := rc) (dr := dr') (ln := ln) (sn := sn) (sd := sd) (ch := ch) (oth := oth') (lw := lw) (hg := hg) (le := le) (bk := bk) (fm := fm) (vy := vy) (t := t) (c := c) (h := h + 1) hn (show h + 1 ≤ n by omega) hp6 (by omega) ((show c ≤ 12 * (t + 1) by omega)) hsz' ok' hA Pg hF
  refine Or.inr ⟨u', v', R', fun post hp => ?_, fun post hp => ?_⟩
  · exact br_t (nI_lt hh (by omega)) (br_t (nI_lt (b := 500) ht (by decide)) (nm_r (nI_1 t) ⟨vh, nm_r eo ⟨vh, nm_r ex ⟨vh, nm_r ey ⟨vh, nm_r ez (xm_tab (o := 9) (by decide) (fun w => absurd w hnb) (fun _ => br_t rfl (nm_r (nI_1 h) (br_f (by decide) (br_f (by decide) (br_f (by decide) (br_f (by decide) (br_f (by decide) (br_f (by decide) (br_f (by decide) (br_f (by decide) (br_f (by decide) (br_f (by decide) (br_t rfl (br_f (by decide) (br_f (by decide) (mX _ (gX post hp))))))))))))))))))⟩⟩⟩⟩))
  · obtain ⟨m, hm⟩ := gY post hp
    exact yg_step hn hh hp6 ht Pg hal ⟨m, ym_tab (o := 9) (by omega) (by decide) e1 e2 e3 e4 hxi hyi (fun w => absurd w hnb) (fun _ => by
      refine br_f (by decide) (br_f (by decide) (br_f (by decide) ?_))
      unfold wY_step_182
      refine yi_in (fun _ _ => br_f (by decide) ⟨by decide, ?_⟩) (fun w => absurd ⟨by decide, by decide⟩ w)
      rw [show ((nI 9 - 2) - (nI 9 - 2) / 4 * 4 : Int32) = 3 from by decide]
      exact br_f (by decide) (mY _ (yc_215 (by decide) (yc_280 (by decide) (by decide) (by decide) (by decide) (by decide) (by decide) (by decide) (by rw [nI_1]; exact hm)))))⟩
end
end
section
/-! one step, by its code: IF, ELSE, PERFORM, GO TO, STOP, DISPLAY, INDEX, TALLY -/
section
variable {cn ck fp pg ob hr sp ix sz pf sc ye yj : Int32}
variable {st kd pl wd tm dg dc ss pc op ox oy oz ps jp oi pa pt sh lc rc dr ln sn sd ch oth lw hg le bk fm vy : Nat → Int32}
variable {n h p c t : Nat} {x y z o : Int32}
theorem so_10 (H : sh_H n h p c t 10 ix sz yj x y z st kd pl wd tm dg dc ss pc ln sn sd op ox oy oz ps jp pa pt lw hg le bk fm vy) : so_O t (nI n, 1, fp, pg, ob, nI h, nI t, ix, sz, nI p, nI c, st, kd, pl, wd, tm, dg, dc, ss, pc, op, ox, oy, oz, ps, jp, oi, pa, pt, sh, lc, rc, dr) (nI n, fp, 1, nI p, nI h, nI t, ix, nI c, (-1), sz, yj, st, kd, pl, ln, dc, tm, sn, sd, op, ox, oy, oz, sh, ch, oth, lw, hg, le, bk, fm, vy) := by
  obtain ⟨hn, hh, hp6, ht, hc, hsz, ok, hA, Pg, hF, hal, ⟨e1, e2, e3, e4⟩, hft, hnb⟩ := H
  have vh : vp_in (nI h) 48 := vp_in_nI (by omega) (by decide)
  have ch1 : (nI h).toNatClampNeg = h := nI_clamp (by omega)
  have eo : op (nI h).toNatClampNeg = nI 10 := by rw [ch1, e1]
  have ex : ox (nI h).toNatClampNeg = x := by rw [ch1, e2]
  have ey : oy (nI h).toNatClampNeg = y := by rw [ch1, e3]
  have ez : oz (nI h).toNatClampNeg = z := by rw [ch1, e4]
  obtain ⟨f1, f2, q, hq, rfl⟩ := hft.2.2.1 rfl
  have f3 := fc_i f1
  have f4 := fc_i f2
  have hxi : 1 ≤ ms_c 10 → x = 16 ∨ ft_i kd x := fun _ => Or.inr f3
  have hyi : ms_c 10 = 2 → ft_i kd y := fun _ => f4
  obtain ⟨j, K, A, W, T, D, B, S, L, e, hj, rfl, R, hX⟩ := ac_ex hA f3 (fun w => hnb (Or.inl ⟨by decide, w⟩))
  obtain ⟨j', K', A', W', T', D', B', S', L', e', hj', rfl, R', hX'⟩ := ac_ex hA f4 (fun w => hnb (Or.inr ⟨rfl, w⟩))
  obtain ⟨r, lc', rc', ch', oth', hr1, mX, mY⟩ := hd_rel (cn := nI n) (ck := 1) (fp := fp) (pg := pg) (ob := ob) (hr := nI h) (sp := nI (t + 1)) (ix := ix) (sz := sz) (pf := nI p) (sc := nI c) (ye := -1) (yj := 0) (st := st) (kd := kd) (pl := pl) (wd := wd) (tm := tm) (dg := dg) (dc := dc) (ss := ss) (pc := pc) (op := op) (ox := ox) (oy := oy) (oz := oz) (ps := ps) (jp := jp) (oi := oi) (pa := pa) (pt := pt) (sh := sh) (lc := lc) (rc := rc) (dr := dr) (ln := ln) (sn := sn) (sd := sd) (ch := ch) (oth := oth) (lw := lw) (hg := hg) (le := le) (bk := bk) (fm := fm) (vy := vy) ok hj R hX hj' R' hX' hq
  obtain ⟨je, jlt, jp1, jp2⟩ := Pg.2.2.2.2 h hh (by rw [e1]; unfold ck_o pw_i; decide)
  have ejp : jp (nI h).toNatClampNeg = nI (je + 1) := by rw [ch1, jp2]
  rcases hr1 with e0 | e0 <;> subst e0
  · obtain ⟨u', v', R', gX, gY⟩ := fg_go (fp := fp) (pg := pg) (ob := ob) (hr := nI h) (ix := ix) (sz := sz) (st := st) (kd := kd) (pl := pl) (wd := wd) (tm := tm) (dg := dg) (dc := dc) (ss := ss) (pc := pc) (op := op) (ox := ox) (oy := oy) (oz := oz) (ps := ps) (jp := jp) (oi := oi) (pa := pa) (pt := pt) (sh := sh) (lc := lc') (rc := rc') (dr := dr) (ln := ln) (sn := sn) (sd := sd) (ch := ch') (oth := oth') (lw := lw) (hg := hg) (le := le) (bk := bk) (fm := fm) (vy := vy) (t := t) (c := c) (h := je + 1) hn (show je + 1 ≤ n by omega) hp6 (by omega) ((show c ≤ 12 * (t + 1) by omega)) hsz ok hA Pg hF
    refine Or.inr ⟨u', v', R', fun post hp => ?_, fun post hp => ?_⟩
    · exact br_t (nI_lt hh (by omega)) (br_t (nI_lt (b := 500) ht (by decide)) (nm_r (nI_1 t) ⟨vh, nm_r eo ⟨vh, nm_r ex ⟨vh, nm_r ey ⟨vh, nm_r ez (xm_tab (o := 10) (by decide) (fun w => absurd w hnb) (fun _ => br_t rfl (nm_r (nI_1 h) (br_f (by decide) (br_f (by decide) (br_f (by decide) (br_f (by decide) (br_f (by decide) (br_f (by decide) (br_f (by decide) (br_f (by decide) (br_f (by decide) (br_f (by decide) (br_f (by decide) (br_t rfl (mX _ (br_t rfl ⟨vh, by rw [ejp]; exact gX post hp⟩)))))))))))))))))⟩⟩⟩⟩))
    · obtain ⟨m, hm⟩ := gY post hp
      exact yg_step hn hh hp6 ht Pg hal ⟨m, ym_tab (o := 10) (by omega) (by decide) e1 e2 e3 e4 hxi hyi (fun w => absurd w hnb) (fun _ => by
        refine br_f (by decide) (br_f (by decide) (br_f (by decide) (yc_182 (by decide) ?_)))
        unfold wY_step_215
        refine yi_in (fun _ _ => br_f (by decide) (br_f (by decide) (br_f (by decide) (mY _ ?_)))) (fun w => absurd ⟨by decide, by decide⟩ w)
        exact br_t rfl (yb_part (by omega) jp1 (yc_280 (by decide) (by decide) (by decide) (by decide) (by decide) (by decide) (by decide) (by rw [nI_1]; exact hm))))⟩
  · obtain ⟨u', v', R', gX, gY⟩ := fg_go (fp := fp) (pg := pg) (ob := ob) (hr := nI h) (ix := ix) (sz := sz) (st := st) (kd := kd) (pl := pl) (wd := wd) (tm := tm) (dg := dg) (dc := dc) (ss := ss) (pc := pc) (op := op) (ox := ox) (oy := oy) (oz := oz) (ps := ps) (jp := jp) (oi := oi) (pa := pa) (pt := pt) (sh := sh) (lc := lc') (rc := rc') (dr := dr) (ln := ln) (sn := sn) (sd := sd) (ch := ch') (oth := oth') (lw := lw) (hg := hg) (le := le) (bk := bk) (fm := fm) (vy := vy) (t := t) (c := c) (h := h + 1) hn (show h + 1 ≤ n by omega) hp6 (by omega) ((show c ≤ 12 * (t + 1) by omega)) hsz ok hA Pg hF
    refine Or.inr ⟨u', v', R', fun post hp => ?_, fun post hp => ?_⟩
    · exact br_t (nI_lt hh (by omega)) (br_t (nI_lt (b := 500) ht (by decide)) (nm_r (nI_1 t) ⟨vh, nm_r eo ⟨vh, nm_r ex ⟨vh, nm_r ey ⟨vh, nm_r ez (xm_tab (o := 10) (by decide) (fun w => absurd w hnb) (fun _ => br_t rfl (nm_r (nI_1 h) (br_f (by decide) (br_f (by decide) (br_f (by decide) (br_f (by decide) (br_f (by decide) (br_f (by decide) (br_f (by decide) (br_f (by decide) (br_f (by decide) (br_f (by decide) (br_f (by decide) (br_t rfl (mX _ (br_f (by decide) (gX post hp))))))))))))))))))⟩⟩⟩⟩))
    · obtain ⟨m, hm⟩ := gY post hp
      exact yg_step hn hh hp6 ht Pg hal ⟨m, ym_tab (o := 10) (by omega) (by decide) e1 e2 e3 e4 hxi hyi (fun w => absurd w hnb) (fun _ => by
        refine br_f (by decide) (br_f (by decide) (br_f (by decide) (yc_182 (by decide) ?_)))
        unfold wY_step_215
        refine yi_in (fun _ _ => br_f (by decide) (br_f (by decide) (br_f (by decide) (mY _ ?_)))) (fun w => absurd ⟨by decide, by decide⟩ w)
        exact br_f (by decide) (yc_280 (by decide) (by decide) (by decide) (by decide) (by decide) (by decide) (by decide) (by rw [nI_1]; exact hm)))⟩
theorem so_11 (H : sh_H n h p c t 11 ix sz yj x y z st kd pl wd tm dg dc ss pc ln sn sd op ox oy oz ps jp pa pt lw hg le bk fm vy) : so_O t (nI n, 1, fp, pg, ob, nI h, nI t, ix, sz, nI p, nI c, st, kd, pl, wd, tm, dg, dc, ss, pc, op, ox, oy, oz, ps, jp, oi, pa, pt, sh, lc, rc, dr) (nI n, fp, 1, nI p, nI h, nI t, ix, nI c, (-1), sz, yj, st, kd, pl, ln, dc, tm, sn, sd, op, ox, oy, oz, sh, ch, oth, lw, hg, le, bk, fm, vy) := by
  obtain ⟨hn, hh, hp6, ht, hc, hsz, ok, hA, Pg, hF, hal, ⟨e1, e2, e3, e4⟩, hft, hnb⟩ := H
  have vh : vp_in (nI h) 48 := vp_in_nI (by omega) (by decide)
  have ch1 : (nI h).toNatClampNeg = h := nI_clamp (by omega)
  have eo : op (nI h).toNatClampNeg = nI 11 := by rw [ch1, e1]
  have ex : ox (nI h).toNatClampNeg = x := by rw [ch1, e2]
  have ey : oy (nI h).toNatClampNeg = y := by rw [ch1, e3]
  have ez : oz (nI h).toNatClampNeg = z := by rw [ch1, e4]
  have hxi : 1 ≤ ms_c 11 → x = 16 ∨ ft_i kd x := (fun w => absurd w (by decide))
  have hyi : ms_c 11 = 2 → ft_i kd y := (fun w => absurd w (by decide))
  obtain ⟨je, jlt, jp1, jp2⟩ := Pg.2.2.2.2 h hh (by rw [e1]; unfold ck_o pw_i; decide)
  have ejp : jp (nI h).toNatClampNeg = nI (je + 1) := by rw [ch1, jp2]
  have hsz0 := hsz
  rcases hsz0 with e0 | e0 <;> subst e0
  · obtain ⟨u', v', R', gX, gY⟩ := fg_go (fp := fp) (pg := pg) (ob := ob) (hr := nI h) (ix := ix) (sz := 0) (st := st) (kd := kd) (pl := pl) (wd := wd) (tm := tm) (dg := dg) (dc := dc) (ss := ss) (pc := pc) (op := op) (ox := ox) (oy := oy) (oz := oz) (ps := ps) (jp := jp) (oi := oi) (pa := pa) (pt := pt) (sh := sh) (lc := lc) (rc := rc) (dr := dr) (ln := ln) (sn := sn) (sd := sd) (ch := ch) (oth := oth) (lw := lw) (hg := hg) (le := le) (bk := bk) (fm := fm) (vy := vy) (t := t) (c := c) (h := je + 1) hn (show je + 1 ≤ n by omega) hp6 (by omega) ((show c ≤ 12 * (t + 1) by omega)) hsz ok hA Pg hF
    refine Or.inr ⟨u', v', R', fun post hp => ?_, fun post hp => ?_⟩
    · exact br_t (nI_lt hh (by omega)) (br_t (nI_lt (b := 500) ht (by decide)) (nm_r (nI_1 t) ⟨vh, nm_r eo ⟨vh, nm_r ex ⟨vh, nm_r ey ⟨vh, nm_r ez (xm_tab (o := 11) (by decide) (fun w => absurd w hnb) (fun _ => br_t rfl (nm_r (nI_1 h) (br_f (by decide) (br_f (by decide) (br_f (by decide) (br_f (by decide) (br_f (by decide) (br_f (by decide) (br_f (by decide) (br_f (by decide) (br_f (by decide) (br_f (by decide) (br_f (by decide) (br_f (by decide) (br_t rfl (br_t rfl ⟨nb_0, br_t rfl ⟨vh, by rw [ejp]; exact gX post hp⟩⟩)))))))))))))))))⟩⟩⟩⟩))
    · obtain ⟨m, hm⟩ := gY post hp
      exact yg_step hn hh hp6 ht Pg hal ⟨m, ym_tab (o := 11) (by omega) (by decide) e1 e2 e3 e4 hxi hyi (fun w => absurd w hnb) (fun _ => by
        refine br_f (by decide) (br_f (by decide) (br_f (by decide) (yc_182 (by decide) ?_)))
        unfold wY_step_215
        refine yi_in (fun _ _ => br_f (by decide) (br_t rfl ?_)) (fun w => absurd ⟨by decide, by decide⟩ w)
        exact br_t rfl (yb_part (by omega) jp1 (yc_280 (by decide) (by decide) (by decide) (by decide) (by decide) (by decide) (by decide) (by rw [nI_1]; exact hm))))⟩
  · obtain ⟨u', v', R', gX, gY⟩ := fg_go (fp := fp) (pg := pg) (ob := ob) (hr := nI h) (ix := ix) (sz := 1) (st := st) (kd := kd) (pl := pl) (wd := wd) (tm := tm) (dg := dg) (dc := dc) (ss := ss) (pc := pc) (op := op) (ox := ox) (oy := oy) (oz := oz) (ps := ps) (jp := jp) (oi := oi) (pa := pa) (pt := pt) (sh := sh) (lc := lc) (rc := rc) (dr := dr) (ln := ln) (sn := sn) (sd := sd) (ch := ch) (oth := oth) (lw := lw) (hg := hg) (le := le) (bk := bk) (fm := fm) (vy := vy) (t := t) (c := c) (h := h + 1) hn (show h + 1 ≤ n by omega) hp6 (by omega) ((show c ≤ 12 * (t + 1) by omega)) hsz ok hA Pg hF
    refine Or.inr ⟨u', v', R', fun post hp => ?_, fun post hp => ?_⟩
    · exact br_t (nI_lt hh (by omega)) (br_t (nI_lt (b := 500) ht (by decide)) (nm_r (nI_1 t) ⟨vh, nm_r eo ⟨vh, nm_r ex ⟨vh, nm_r ey ⟨vh, nm_r ez (xm_tab (o := 11) (by decide) (fun w => absurd w hnb) (fun _ => br_t rfl (nm_r (nI_1 h) (br_f (by decide) (br_f (by decide) (br_f (by decide) (br_f (by decide) (br_f (by decide) (br_f (by decide) (br_f (by decide) (br_f (by decide) (br_f (by decide) (br_f (by decide) (br_f (by decide) (br_f (by decide) (br_t rfl (br_t rfl ⟨nb_1, br_f (by decide) (gX post hp)⟩)))))))))))))))))⟩⟩⟩⟩))
    · obtain ⟨m, hm⟩ := gY post hp
      exact yg_step hn hh hp6 ht Pg hal ⟨m, ym_tab (o := 11) (by omega) (by decide) e1 e2 e3 e4 hxi hyi (fun w => absurd w hnb) (fun _ => by
        refine br_f (by decide) (br_f (by decide) (br_f (by decide) (yc_182 (by decide) ?_)))
        unfold wY_step_215
        refine yi_in (fun _ _ => br_f (by decide) (br_t rfl ?_)) (fun w => absurd ⟨by decide, by decide⟩ w)
        exact br_f (by decide) (yc_280 (by decide) (by decide) (by decide) (by decide) (by decide) (by decide) (by decide) (by rw [nI_1]; exact hm)))⟩
theorem so_12 (H : sh_H n h p c t 12 ix sz yj x y z st kd pl wd tm dg dc ss pc ln sn sd op ox oy oz ps jp pa pt lw hg le bk fm vy) : so_O t (nI n, 1, fp, pg, ob, nI h, nI t, ix, sz, nI p, nI c, st, kd, pl, wd, tm, dg, dc, ss, pc, op, ox, oy, oz, ps, jp, oi, pa, pt, sh, lc, rc, dr) (nI n, fp, 1, nI p, nI h, nI t, ix, nI c, (-1), sz, yj, st, kd, pl, ln, dc, tm, sn, sd, op, ox, oy, oz, sh, ch, oth, lw, hg, le, bk, fm, vy) := by
  obtain ⟨hn, hh, hp6, ht, hc, hsz, ok, hA, Pg, hF, hal, ⟨e1, e2, e3, e4⟩, hft, hnb⟩ := H
  have vh : vp_in (nI h) 48 := vp_in_nI (by omega) (by decide)
  have ch1 : (nI h).toNatClampNeg = h := nI_clamp (by omega)
  have eo : op (nI h).toNatClampNeg = nI 12 := by rw [ch1, e1]
  have ex : ox (nI h).toNatClampNeg = x := by rw [ch1, e2]
  have ey : oy (nI h).toNatClampNeg = y := by rw [ch1, e3]
  have ez : oz (nI h).toNatClampNeg = z := by rw [ch1, e4]
  have f1 := hft.2.2.2.1 rfl
  have f3 := fc_i f1
  have hxi : 1 ≤ ms_c 12 → x = 16 ∨ ft_i kd x := fun _ => Or.inr f3
  have hyi : ms_c 12 = 2 → ft_i kd y := (fun w => absurd w (by decide))
  obtain ⟨j, K, A, W, T, D, B, S, L, e, hj, rfl, R, hX⟩ := ac_ex hA f3 (fun w => hnb (Or.inl ⟨by decide, w⟩))
  obtain ⟨r, ch', hr1, mX, mY⟩ := nu_pair (cn := nI n) (ck := 1) (fp := fp) (pg := pg) (ob := ob) (hr := nI h) (sp := nI (t + 1)) (ix := ix) (sz := sz) (pf := nI p) (sc := nI c) (ye := -1) (yj := 0) (st := st) (kd := kd) (pl := pl) (wd := wd) (tm := tm) (dg := dg) (dc := dc) (ss := ss) (pc := pc) (op := op) (ox := ox) (oy := oy) (oz := oz) (ps := ps) (jp := jp) (oi := oi) (pa := pa) (pt := pt) (sh := sh) (lc := lc) (rc := rc) (dr := dr) (ln := ln) (sn := sn) (sd := sd) (ch := ch) (oth := oth) (lw := lw) (hg := hg) (le := le) (bk := bk) (fm := fm) (vy := vy) hj R hX
  obtain ⟨je, jlt, jp1, jp2⟩ := Pg.2.2.2.2 h hh (by rw [e1]; unfold ck_o pw_i; decide)
  have ejp : jp (nI h).toNatClampNeg = nI (je + 1) := by rw [ch1, jp2]
  rcases hr1 with e0 | e0 <;> subst e0
  · obtain ⟨u', v', R', gX, gY⟩ := fg_go (fp := fp) (pg := pg) (ob := ob) (hr := nI h) (ix := ix) (sz := sz) (st := st) (kd := kd) (pl := pl) (wd := wd) (tm := tm) (dg := dg) (dc := dc) (ss := ss) (pc := pc) (op := op) (ox := ox) (oy := oy) (oz := oz) (ps := ps) (jp := jp) (oi := oi) (pa := pa) (pt := pt) (sh := sh) (lc := lc) (rc := rc) (dr := dr) (ln := ln) (sn := sn) (sd := sd) (ch := ch') (oth := oth) (lw := lw) (hg := hg) (le := le) (bk := bk) (fm := fm) (vy := vy) (t := t) (c := c) (h := je + 1) hn (show je + 1 ≤ n by omega) hp6 (by omega) ((show c ≤ 12 * (t + 1) by omega)) hsz ok hA Pg hF
    refine Or.inr ⟨u', v', R', fun post hp => ?_, fun post hp => ?_⟩
    · exact br_t (nI_lt hh (by omega)) (br_t (nI_lt (b := 500) ht (by decide)) (nm_r (nI_1 t) ⟨vh, nm_r eo ⟨vh, nm_r ex ⟨vh, nm_r ey ⟨vh, nm_r ez (xm_tab (o := 12) (by decide) (fun w => absurd w hnb) (fun _ => br_t rfl (nm_r (nI_1 h) (br_f (by decide) (br_f (by decide) (br_f (by decide) (br_f (by decide) (br_f (by decide) (br_f (by decide) (br_f (by decide) (br_f (by decide) (br_f (by decide) (br_f (by decide) (br_f (by decide) (br_f (by decide) (br_f (by decide) (br_t rfl (br_f (by decide) (br_t rfl (mX _ ⟨nb_0, br_t rfl ⟨vh, by rw [ejp]; exact gX post hp⟩⟩))))))))))))))))))))⟩⟩⟩⟩))
    · obtain ⟨m, hm⟩ := gY post hp
      exact yg_step hn hh hp6 ht Pg hal ⟨m, ym_tab (o := 12) (by omega) (by decide) e1 e2 e3 e4 hxi hyi (fun w => absurd w hnb) (fun _ => by
        refine br_f (by decide) (br_f (by decide) (br_f (by decide) (yc_182 (by decide) ?_)))
        unfold wY_step_215
        refine yi_in (fun _ _ => br_f (by decide) (br_f (by decide) (br_t rfl (mY _ ?_)))) (fun w => absurd ⟨by decide, by decide⟩ w)
        exact br_t rfl (yb_part (by omega) jp1 (yc_280 (by decide) (by decide) (by decide) (by decide) (by decide) (by decide) (by decide) (by rw [nI_1]; exact hm))))⟩
  · obtain ⟨u', v', R', gX, gY⟩ := fg_go (fp := fp) (pg := pg) (ob := ob) (hr := nI h) (ix := ix) (sz := sz) (st := st) (kd := kd) (pl := pl) (wd := wd) (tm := tm) (dg := dg) (dc := dc) (ss := ss) (pc := pc) (op := op) (ox := ox) (oy := oy) (oz := oz) (ps := ps) (jp := jp) (oi := oi) (pa := pa) (pt := pt) (sh := sh) (lc := lc) (rc := rc) (dr := dr) (ln := ln) (sn := sn) (sd := sd) (ch := ch') (oth := oth) (lw := lw) (hg := hg) (le := le) (bk := bk) (fm := fm) (vy := vy) (t := t) (c := c) (h := h + 1) hn (show h + 1 ≤ n by omega) hp6 (by omega) ((show c ≤ 12 * (t + 1) by omega)) hsz ok hA Pg hF
    refine Or.inr ⟨u', v', R', fun post hp => ?_, fun post hp => ?_⟩
    · exact br_t (nI_lt hh (by omega)) (br_t (nI_lt (b := 500) ht (by decide)) (nm_r (nI_1 t) ⟨vh, nm_r eo ⟨vh, nm_r ex ⟨vh, nm_r ey ⟨vh, nm_r ez (xm_tab (o := 12) (by decide) (fun w => absurd w hnb) (fun _ => br_t rfl (nm_r (nI_1 h) (br_f (by decide) (br_f (by decide) (br_f (by decide) (br_f (by decide) (br_f (by decide) (br_f (by decide) (br_f (by decide) (br_f (by decide) (br_f (by decide) (br_f (by decide) (br_f (by decide) (br_f (by decide) (br_f (by decide) (br_t rfl (br_f (by decide) (br_t rfl (mX _ ⟨nb_1, br_f (by decide) (gX post hp)⟩))))))))))))))))))))⟩⟩⟩⟩))
    · obtain ⟨m, hm⟩ := gY post hp
      exact yg_step hn hh hp6 ht Pg hal ⟨m, ym_tab (o := 12) (by omega) (by decide) e1 e2 e3 e4 hxi hyi (fun w => absurd w hnb) (fun _ => by
        refine br_f (by decide) (br_f (by decide) (br_f (by decide) (yc_182 (by decide) ?_)))
        unfold wY_step_215
        refine yi_in (fun _ _ => br_f (by decide) (br_f (by decide) (br_t rfl (mY _ ?_)))) (fun w => absurd ⟨by decide, by decide⟩ w)
        exact br_f (by decide) (yc_280 (by decide) (by decide) (by decide) (by decide) (by decide) (by decide) (by decide) (by rw [nI_1]; exact hm)))⟩
theorem so_13 (H : sh_H n h p c t 13 ix sz yj x y z st kd pl wd tm dg dc ss pc ln sn sd op ox oy oz ps jp pa pt lw hg le bk fm vy) : so_O t (nI n, 1, fp, pg, ob, nI h, nI t, ix, sz, nI p, nI c, st, kd, pl, wd, tm, dg, dc, ss, pc, op, ox, oy, oz, ps, jp, oi, pa, pt, sh, lc, rc, dr) (nI n, fp, 1, nI p, nI h, nI t, ix, nI c, (-1), sz, yj, st, kd, pl, ln, dc, tm, sn, sd, op, ox, oy, oz, sh, ch, oth, lw, hg, le, bk, fm, vy) := by
  obtain ⟨hn, hh, hp6, ht, hc, hsz, ok, hA, Pg, hF, hal, ⟨e1, e2, e3, e4⟩, hft, hnb⟩ := H
  have vh : vp_in (nI h) 48 := vp_in_nI (by omega) (by decide)
  have ch1 : (nI h).toNatClampNeg = h := nI_clamp (by omega)
  have eo : op (nI h).toNatClampNeg = nI 13 := by rw [ch1, e1]
  have ex : ox (nI h).toNatClampNeg = x := by rw [ch1, e2]
  have ey : oy (nI h).toNatClampNeg = y := by rw [ch1, e3]
  have ez : oz (nI h).toNatClampNeg = z := by rw [ch1, e4]
  have hxi : 1 ≤ ms_c 13 → x = 16 ∨ ft_i kd x := (fun w => absurd w (by decide))
  have hyi : ms_c 13 = 2 → ft_i kd y := (fun w => absurd w (by decide))
  obtain ⟨je, jlt, jp1, jp2⟩ := Pg.2.2.2.2 h hh (by rw [e1]; unfold ck_o pw_i; decide)
  have ejp : jp (nI h).toNatClampNeg = nI (je + 1) := by rw [ch1, jp2]
  obtain ⟨u', v', R', gX, gY⟩ := fg_go (fp := fp) (pg := pg) (ob := ob) (hr := nI h) (ix := ix) (sz := sz) (st := st) (kd := kd) (pl := pl) (wd := wd) (tm := tm) (dg := dg) (dc := dc) (ss := ss) (pc := pc) (op := op) (ox := ox) (oy := oy) (oz := oz) (ps := ps) (jp := jp) (oi := oi) (pa := pa) (pt := pt) (sh := sh) (lc := lc) (rc := rc) (dr := dr) (ln := ln) (sn := sn) (sd := sd) (ch := ch) (oth := oth) (lw := lw) (hg := hg) (le := le) (bk := bk) (fm := fm) (vy := vy) (t := t) (c := c) (h := je + 1) hn (show je + 1 ≤ n by omega) hp6 (by omega) ((show c ≤ 12 * (t + 1) by omega)) hsz ok hA Pg hF
  refine Or.inr ⟨u', v', R', fun post hp => ?_, fun post hp => ?_⟩
  · exact br_t (nI_lt hh (by omega)) (br_t (nI_lt (b := 500) ht (by decide)) (nm_r (nI_1 t) ⟨vh, nm_r eo ⟨vh, nm_r ex ⟨vh, nm_r ey ⟨vh, nm_r ez (xm_tab (o := 13) (by decide) (fun w => absurd w hnb) (fun _ => br_t rfl (nm_r (nI_1 h) (br_f (by decide) (br_f (by decide) (br_f (by decide) (br_f (by decide) (br_f (by decide) (br_f (by decide) (br_f (by decide) (br_f (by decide) (br_f (by decide) (br_f (by decide) (br_f (by decide) (br_f (by decide) (br_f (by decide) (br_f (by decide) (br_t rfl (⟨vh, nm_r ejp (gX post hp)⟩)))))))))))))))))))⟩⟩⟩⟩))
  · obtain ⟨m, hm⟩ := gY post hp
    exact yg_step hn hh hp6 ht Pg hal ⟨m, ym_tab (o := 13) (by omega) (by decide) e1 e2 e3 e4 hxi hyi (fun w => absurd w hnb) (fun _ => br_f (by decide) (br_f (by decide) (br_f (by decide) (yc_182 (by decide) (yc_215 (by decide) (br_t rfl (yb_part (by omega) jp1 (br_f (by decide) (yc_320 (by decide) (by decide) (by decide) (by decide) (by decide) (by rw [nI_1]; exact hm))))))))))⟩
theorem so_17 (H : sh_H n h p c t 17 ix sz yj x y z st kd pl wd tm dg dc ss pc ln sn sd op ox oy oz ps jp pa pt lw hg le bk fm vy) : so_O t (nI n, 1, fp, pg, ob, nI h, nI t, ix, sz, nI p, nI c, st, kd, pl, wd, tm, dg, dc, ss, pc, op, ox, oy, oz, ps, jp, oi, pa, pt, sh, lc, rc, dr) (nI n, fp, 1, nI p, nI h, nI t, ix, nI c, (-1), sz, yj, st, kd, pl, ln, dc, tm, sn, sd, op, ox, oy, oz, sh, ch, oth, lw, hg, le, bk, fm, vy) := by
  obtain ⟨hn, hh, hp6, ht, hc, hsz, ok, hA, Pg, hF, hal, ⟨e1, e2, e3, e4⟩, hft, hnb⟩ := H
  have vh : vp_in (nI h) 48 := vp_in_nI (by omega) (by decide)
  have ch1 : (nI h).toNatClampNeg = h := nI_clamp (by omega)
  have eo : op (nI h).toNatClampNeg = nI 17 := by rw [ch1, e1]
  have ex : ox (nI h).toNatClampNeg = x := by rw [ch1, e2]
  have ey : oy (nI h).toNatClampNeg = y := by rw [ch1, e3]
  have ez : oz (nI h).toNatClampNeg = z := by rw [ch1, e4]
  obtain ⟨a, rfl, ha⟩ := hft.2.2.2.2.2.1 rfl
  have hxi : 1 ≤ ms_c 17 → nI a = 16 ∨ ft_i kd (nI a) := (fun w => absurd w (by decide))
  have hyi : ms_c 17 = 2 → ft_i kd y := (fun w => absurd w (by decide))
  have hbn := tb_le op n
  obtain ⟨k0, e, a1, a2, a3, a4, -⟩ := tb_par Pg.2.2.1 ha
  refine Or.inr ⟨(nI n, 1, fp, pg, ob, nI k0, nI (t + 1), ix, sz, nI p, nI c, st, kd, pl, wd, tm, dg, dc, ss, pc, op, ox, oy, oz, ps, jp, oi, pa, pt, sh, lc, rc, dr), (nI n, fp, 1, nI p, nI k0, nI (t + 1), ix, nI c, (-1), sz, 1, st, kd, pl, ln, dc, tm, sn, sd, op, ox, oy, oz, sh, ch, oth, lw, hg, le, bk, fm, vy), ⟨⟨rfl, rfl, rfl, rfl, rfl, rfl, rfl, rfl, rfl, rfl, rfl, rfl, rfl, rfl, rfl, rfl, rfl⟩, ⟨rfl, rfl⟩, n, k0, p, c, ⟨rfl, rfl, rfl, rfl, rfl, rfl, rfl⟩, hn, by omega, hp6, by omega, by omega, hsz, Or.inr rfl, ok, hA, Pg, hF, Or.inl (by decide)⟩, fun post hp => ?_, fun post hp => ?_⟩
  · have ea : ps (nI a).toNatClampNeg = nI k0 := by rw [nI_clamp (by omega), a4]
    exact br_t (nI_lt hh (by omega)) (br_t (nI_lt (b := 500) ht (by decide)) (nm_r (nI_1 t) ⟨vh, nm_r eo ⟨vh, nm_r ex ⟨vh, nm_r ey ⟨vh, nm_r ez (xm_tab (o := 17) (by decide) (fun w => absurd w hnb) (fun _ => br_t rfl (nm_r (nI_1 h) (br_f (by decide) (br_f (by decide) (br_f (by decide) (br_f (by decide) (br_f (by decide) (br_f (by decide) (br_f (by decide) (br_f (by decide) (br_f (by decide) (br_f (by decide) (br_f (by decide) (br_f (by decide) (br_f (by decide) (br_f (by decide) (br_f (by decide) (br_f (by decide) (br_f (by decide) (br_f (by decide) (br_t rfl (⟨vp_in_nI (by omega) (by decide), nm_r ea hp⟩)))))))))))))))))))))))⟩⟩⟩⟩))
  · obtain ⟨m, hm⟩ := hp
    have em : nI k0 - 1 + 1 = nI k0 := Int32.sub_add_cancel _ _
    exact yg_step hn hh hp6 ht Pg hal ⟨m, ym_tab (o := 17) (by omega) (by decide) e1 e2 e3 e4 hxi hyi (fun w => absurd w hnb) (fun _ => br_f (by decide) (br_f (by decide) (br_f (by decide) (yc_182 (by decide) (yc_215 (by decide) (br_f (by decide) (br_t rfl (yb_begin (by omega) a2 a3 (nm_e (yc_320 (by decide) (by decide) (by decide) (by decide) (by decide) (by rw [em]; exact hm)))))))))))⟩
theorem so_18 (H : sh_H n h p c t 18 ix sz yj x y z st kd pl wd tm dg dc ss pc ln sn sd op ox oy oz ps jp pa pt lw hg le bk fm vy) : so_O t (nI n, 1, fp, pg, ob, nI h, nI t, ix, sz, nI p, nI c, st, kd, pl, wd, tm, dg, dc, ss, pc, op, ox, oy, oz, ps, jp, oi, pa, pt, sh, lc, rc, dr) (nI n, fp, 1, nI p, nI h, nI t, ix, nI c, (-1), sz, yj, st, kd, pl, ln, dc, tm, sn, sd, op, ox, oy, oz, sh, ch, oth, lw, hg, le, bk, fm, vy) := by
  obtain ⟨hn, hh, hp6, ht, hc, hsz, ok, hA, Pg, hF, hal, ⟨e1, e2, e3, e4⟩, hft, hnb⟩ := H
  have vh : vp_in (nI h) 48 := vp_in_nI (by omega) (by decide)
  have ch1 : (nI h).toNatClampNeg = h := nI_clamp (by omega)
  have eo : op (nI h).toNatClampNeg = nI 18 := by rw [ch1, e1]
  have ex : ox (nI h).toNatClampNeg = x := by rw [ch1, e2]
  have ey : oy (nI h).toNatClampNeg = y := by rw [ch1, e3]
  have ez : oz (nI h).toNatClampNeg = z := by rw [ch1, e4]
  have hxi : 1 ≤ ms_c 18 → x = 16 ∨ ft_i kd x := (fun w => absurd w (by decide))
  have hyi : ms_c 18 = 2 → ft_i kd y := (fun w => absurd w (by decide))
  refine Or.inl ⟨0, (nI n, 1, fp, pg, ob, nI h, nI (t + 1), ix, sz, nI p, nI c, st, kd, pl, wd, tm, dg, dc, ss, pc, op, ox, oy, oz, ps, jp, oi, pa, pt, sh, lc, rc, dr), (nI n, fp, 1, nI p, nI h + 1, nI (t + 1), ix, nI c, 0, sz, 0, st, kd, pl, ln, dc, tm, sn, sd, op, ox, oy, oz, sh, ch, oth, lw, hg, le, bk, fm, vy), by decide, ⟨⟨rfl, rfl, rfl, rfl, rfl, rfl, rfl, rfl, rfl, rfl, rfl, rfl, rfl, rfl, rfl, rfl, rfl⟩, rl_of hn hsz ok hA Pg rfl⟩, fun post hp => ?_, fun post hp => ?_⟩
  · exact br_t (nI_lt hh (by omega)) (br_t (nI_lt (b := 500) ht (by decide)) (nm_r (nI_1 t) ⟨vh, nm_r eo ⟨vh, nm_r ex ⟨vh, nm_r ey ⟨vh, nm_r ez (xm_tab (o := 18) (by decide) (fun w => absurd w hnb) (fun _ => br_t rfl (nm_r (nI_1 h) (br_f (by decide) (br_f (by decide) (br_f (by decide) (br_f (by decide) (br_f (by decide) (br_f (by decide) (br_f (by decide) (br_f (by decide) (br_f (by decide) (br_f (by decide) (br_f (by decide) (br_f (by decide) (br_f (by decide) (br_f (by decide) (br_f (by decide) (br_f (by decide) (br_f (by decide) (br_f (by decide) (br_f (by decide) (br_t rfl (hp))))))))))))))))))))))))⟩⟩⟩⟩))
  · exact yg_step hn hh hp6 ht Pg hal ⟨1, ym_tab (o := 18) (by omega) (by decide) e1 e2 e3 e4 hxi hyi (fun w => absurd w hnb) (fun _ => br_f (by decide) (br_f (by decide) (br_f (by decide) (yc_182 (by decide) (yc_215 (by decide) (br_f (by decide) (br_f (by decide) (br_t rfl (br_f (by decide) (br_f (by decide) (br_f (by decide) (br_f (by decide) (nm_e (br_t (by decide) hp))))))))))))))⟩
theorem so_21 (H : sh_H n h p c t 21 ix sz yj x y z st kd pl wd tm dg dc ss pc ln sn sd op ox oy oz ps jp pa pt lw hg le bk fm vy) : so_O t (nI n, 1, fp, pg, ob, nI h, nI t, ix, sz, nI p, nI c, st, kd, pl, wd, tm, dg, dc, ss, pc, op, ox, oy, oz, ps, jp, oi, pa, pt, sh, lc, rc, dr) (nI n, fp, 1, nI p, nI h, nI t, ix, nI c, (-1), sz, yj, st, kd, pl, ln, dc, tm, sn, sd, op, ox, oy, oz, sh, ch, oth, lw, hg, le, bk, fm, vy) := by
  obtain ⟨hn, hh, hp6, ht, hc, hsz, ok, hA, Pg, hF, hal, ⟨e1, e2, e3, e4⟩, hft, hnb⟩ := H
  have vh : vp_in (nI h) 48 := vp_in_nI (by omega) (by decide)
  have ch1 : (nI h).toNatClampNeg = h := nI_clamp (by omega)
  have eo : op (nI h).toNatClampNeg = nI 21 := by rw [ch1, e1]
  have ex : ox (nI h).toNatClampNeg = x := by rw [ch1, e2]
  have ey : oy (nI h).toNatClampNeg = y := by rw [ch1, e3]
  have ez : oz (nI h).toNatClampNeg = z := by rw [ch1, e4]
  have hxi : 1 ≤ ms_c 21 → x = 16 ∨ ft_i kd x := (fun w => absurd w (by decide))
  have hyi : ms_c 21 = 2 → ft_i kd y := (fun w => absurd w (by decide))
  obtain ⟨u', v', R', gX, gY⟩ := fg_go (fp := fp) (pg := pg) (ob := ob) (hr := nI h) (ix := ix + z) (sz := sz) (st := st) (kd := kd) (pl := pl) (wd := wd) (tm := tm) (dg := dg) (dc := dc) (ss := ss) (pc := pc) (op := op) (ox := ox) (oy := oy) (oz := oz) (ps := ps) (jp := jp) (oi := oi) (pa := pa) (pt := pt) (sh := sh) (lc := lc) (rc := rc) (dr := dr) (ln := ln) (sn := sn) (sd := sd) (ch := ch) (oth := oth) (lw := lw) (hg := hg) (le := le) (bk := bk) (fm := fm) (vy := vy) (t := t) (c := c) (h := h + 1) hn (show h + 1 ≤ n by omega) hp6 (by omega) ((show c ≤ 12 * (t + 1) by omega)) hsz ok hA Pg hF
  refine Or.inr ⟨u', v', R', fun post hp => ?_, fun post hp => ?_⟩
  · exact br_t (nI_lt hh (by omega)) (br_t (nI_lt (b := 500) ht (by decide)) (nm_r (nI_1 t) ⟨vh, nm_r eo ⟨vh, nm_r ex ⟨vh, nm_r ey ⟨vh, nm_r ez (xm_tab (o := 21) (by decide) (fun w => absurd w hnb) (fun _ => br_t rfl (nm_r (nI_1 h) (br_f (by decide) (br_f (by decide) (br_f (by decide) (br_f (by decide) (br_f (by decide) (br_f (by decide) (br_f (by decide) (br_f (by decide) (br_f (by decide) (br_f (by decide) (br_f (by decide) (br_f (by decide) (br_f (by decide) (br_f (by decide) (br_f (by decide) (br_f (by decide) (br_f (by decide) (br_f (by decide) (br_f (by decide) (br_f (by decide) (br_f (by decide) (br_f (by decide) (br_t rfl (nm_e (gX post hp))))))))))))))))))))))))))))⟩⟩⟩⟩))
  · obtain ⟨m, hm⟩ := gY post hp
    exact yg_step hn hh hp6 ht Pg hal ⟨m, ym_tab (o := 21) (by omega) (by decide) e1 e2 e3 e4 hxi hyi (fun w => absurd w hnb) (fun _ => br_f (by decide) (br_f (by decide) (br_f (by decide) (yc_182 (by decide) (yc_215 (by decide) (br_f (by decide) (br_f (by decide) (br_f (by decide) (br_f (by decide) (br_f (by decide) (br_t rfl (nm_e (br_f (by decide) (nm_r (nI_1 h) hm))))))))))))))⟩
theorem so_19 (H : sh_H n h p c t 19 ix sz yj x y z st kd pl wd tm dg dc ss pc ln sn sd op ox oy oz ps jp pa pt lw hg le bk fm vy) : so_O t (nI n, 1, fp, pg, ob, nI h, nI t, ix, sz, nI p, nI c, st, kd, pl, wd, tm, dg, dc, ss, pc, op, ox, oy, oz, ps, jp, oi, pa, pt, sh, lc, rc, dr) (nI n, fp, 1, nI p, nI h, nI t, ix, nI c, (-1), sz, yj, st, kd, pl, ln, dc, tm, sn, sd, op, ox, oy, oz, sh, ch, oth, lw, hg, le, bk, fm, vy) := by
  obtain ⟨hn, hh, hp6, ht, hc, hsz, ok, hA, Pg, hF, hal, ⟨e1, e2, e3, e4⟩, hft, hnb⟩ := H
  have vh : vp_in (nI h) 48 := vp_in_nI (by omega) (by decide)
  have ch1 : (nI h).toNatClampNeg = h := nI_clamp (by omega)
  have eo : op (nI h).toNatClampNeg = nI 19 := by rw [ch1, e1]
  have ex : ox (nI h).toNatClampNeg = x := by rw [ch1, e2]
  have ey : oy (nI h).toNatClampNeg = y := by rw [ch1, e3]
  have ez : oz (nI h).toNatClampNeg = z := by rw [ch1, e4]
  have f1 := hft.2.2.2.2.2.2.1 rfl
  have hxi : 1 ≤ ms_c 19 → x = 16 ∨ ft_i kd x := fun _ => f1
  have hyi : ms_c 19 = 2 → ft_i kd y := (fun w => absurd w (by decide))
  have f0 := f1
  rcases f0 with rfl | f2
  · obtain ⟨u', v', R', gX, gY⟩ := fg_go (fp := fp) (pg := pg) (ob := ob) (hr := nI h) (ix := ix) (sz := sz) (st := st) (kd := kd) (pl := pl) (wd := wd) (tm := tm) (dg := dg) (dc := dc) (ss := ss) (pc := pc) (op := op) (ox := ox) (oy := oy) (oz := oz) (ps := ps) (jp := jp) (oi := oi) (pa := pa) (pt := pt) (sh := sh) (lc := lc) (rc := rc) (dr := dr) (ln := ln) (sn := sn) (sd := sd) (ch := ch) (oth := oth) (lw := lw) (hg := hg) (le := le) (bk := bk) (fm := fm) (vy := vy) (t := t) (c := c) (h := h + 1) hn (show h + 1 ≤ n by omega) hp6 (by omega) ((show c ≤ 12 * (t + 1) by omega)) hsz ok hA Pg hF
    refine Or.inr ⟨u', v', R', fun post hp => ?_, fun post hp => ?_⟩
    · exact br_t (nI_lt hh (by omega)) (br_t (nI_lt (b := 500) ht (by decide)) (nm_r (nI_1 t) ⟨vh, nm_r eo ⟨vh, nm_r ex ⟨vh, nm_r ey ⟨vh, nm_r ez (xm_tab (o := 19) (by decide) (fun w => absurd w hnb) (fun _ => br_t rfl (nm_r (nI_1 h) (br_f (by decide) (br_f (by decide) (br_f (by decide) (br_f (by decide) (br_f (by decide) (br_f (by decide) (br_f (by decide) (br_f (by decide) (br_f (by decide) (br_f (by decide) (br_f (by decide) (br_f (by decide) (br_f (by decide) (br_f (by decide) (br_f (by decide) (br_f (by decide) (br_f (by decide) (br_f (by decide) (br_f (by decide) (br_f (by decide) (br_t rfl (br_t rfl (gX post hp))))))))))))))))))))))))))⟩⟩⟩⟩))
    · obtain ⟨m, hm⟩ := gY post hp
      exact yg_step hn hh hp6 ht Pg hal ⟨m, ym_tab (o := 19) (by omega) (by decide) e1 e2 e3 e4 hxi hyi (fun w => absurd w hnb) (fun _ => br_f (by decide) (br_f (by decide) (br_f (by decide) (yc_182 (by decide) (yc_215 (by decide) (br_f (by decide) (br_f (by decide) (br_f (by decide) (br_t rfl (br_t rfl (br_f (by decide) (br_f (by decide) (br_f (by decide) (nm_r (nI_1 h) hm))))))))))))))⟩
  · obtain ⟨j, K, A, W, T, D, B, S, L, e, hj, rfl, R, hX⟩ := ac_ex hA f2 (fun w => hnb (Or.inl ⟨by decide, w⟩))
    have hW := it_W12 R
    obtain ⟨mX, mY⟩ := dp_pair (cn := nI n) (ck := 1) (fp := fp) (pg := pg) (ob := ob) (hr := nI h) (sp := nI (t + 1)) (ix := ix) (sz := sz) (pf := nI p) (ye := -1) (yj := 0) (st := st) (kd := kd) (pl := pl) (wd := wd) (tm := tm) (dg := dg) (dc := dc) (ss := ss) (pc := pc) (op := op) (ox := ox) (oy := oy) (oz := oz) (ps := ps) (jp := jp) (oi := oi) (pa := pa) (pt := pt) (sh := sh) (lc := lc) (rc := rc) (dr := dr) (ln := ln) (sn := sn) (sd := sd) (ch := ch) (oth := oth) (lw := lw) (hg := hg) (le := le) (bk := bk) (fm := fm) (vy := vy) (c := c) hj R hX (by omega)
    obtain ⟨u', v', R', gX, gY⟩ := fg_go (fp := fp) (pg := pg) (ob := ob) (hr := nI h) (ix := ix) (sz := sz) (st := st) (kd := kd) (pl := pl) (wd := wd) (tm := tm) (dg := dg) (dc := dc) (ss := ss) (pc := pc) (op := op) (ox := ox) (oy := oy) (oz := oz) (ps := ps) (jp := jp) (oi := oi) (pa := pa) (pt := pt) (sh := dp_f sh c st (A + (e - 1) * W) W) (lc := lc) (rc := rc) (dr := dr) (ln := ln) (sn := sn) (sd := sd) (ch := sg_put ch 0 0 W (fun i => st (A + (e - 1) * W + 0 + i))) (oth := oth) (lw := lw) (hg := hg) (le := le) (bk := bk) (fm := fm) (vy := vy) (t := t) (c := c + W) (h := h + 1) hn (show h + 1 ≤ n by omega) hp6 (by omega) ((show c + W ≤ 12 * (t + 1) by omega)) hsz ok hA Pg hF
    refine Or.inr ⟨u', v', R', fun post hp => ?_, fun post hp => ?_⟩
    · exact br_t (nI_lt hh (by omega)) (br_t (nI_lt (b := 500) ht (by decide)) (nm_r (nI_1 t) ⟨vh, nm_r eo ⟨vh, nm_r ex ⟨vh, nm_r ey ⟨vh, nm_r ez (xm_tab (o := 19) (by decide) (fun w => absurd w hnb) (fun _ => br_t rfl (nm_r (nI_1 h) (br_f (by decide) (br_f (by decide) (br_f (by decide) (br_f (by decide) (br_f (by decide) (br_f (by decide) (br_f (by decide) (br_f (by decide) (br_f (by decide) (br_f (by decide) (br_f (by decide) (br_f (by decide) (br_f (by decide) (br_f (by decide) (br_f (by decide) (br_f (by decide) (br_f (by decide) (br_f (by decide) (br_f (by decide) (br_f (by decide) (br_t rfl (mX _ (gX post hp))))))))))))))))))))))))))⟩⟩⟩⟩))
    · obtain ⟨m, hm⟩ := gY post hp
      exact yg_step hn hh hp6 ht Pg hal ⟨m, ym_tab (o := 19) (by omega) (by decide) e1 e2 e3 e4 hxi hyi (fun w => absurd w hnb) (fun _ => br_f (by decide) (br_f (by decide) (br_f (by decide) (yc_182 (by decide) (yc_215 (by decide) (br_f (by decide) (br_f (by decide) (br_f (by decide) (br_t rfl (br_f (nI_16 hj) (mY _ (br_f (by decide) (br_f (by decide) (br_f (by decide) (nm_r (nI_1 h) hm)))))))))))))))⟩
theorem so_22 (H : sh_H n h p c t 22 ix sz yj x y z st kd pl wd tm dg dc ss pc ln sn sd op ox oy oz ps jp pa pt lw hg le bk fm vy) : so_O t (nI n, 1, fp, pg, ob, nI h, nI t, ix, sz, nI p, nI c, st, kd, pl, wd, tm, dg, dc, ss, pc, op, ox, oy, oz, ps, jp, oi, pa, pt, sh, lc, rc, dr) (nI n, fp, 1, nI p, nI h, nI t, ix, nI c, (-1), sz, yj, st, kd, pl, ln, dc, tm, sn, sd, op, ox, oy, oz, sh, ch, oth, lw, hg, le, bk, fm, vy) := by
  obtain ⟨hn, hh, hp6, ht, hc, hsz, ok, hA, Pg, hF, hal, ⟨e1, e2, e3, e4⟩, hft, hnb⟩ := H
  have vh : vp_in (nI h) 48 := vp_in_nI (by omega) (by decide)
  have ch1 : (nI h).toNatClampNeg = h := nI_clamp (by omega)
  have eo : op (nI h).toNatClampNeg = nI 22 := by rw [ch1, e1]
  have ex : ox (nI h).toNatClampNeg = x := by rw [ch1, e2]
  have ey : oy (nI h).toNatClampNeg = y := by rw [ch1, e3]
  have ez : oz (nI h).toNatClampNeg = z := by rw [ch1, e4]
  obtain ⟨f1, f2⟩ := hft.2.2.2.2.2.2.2.2 rfl
  have f3 := fs_i (by decide) f2
  have hxi : 1 ≤ ms_c 22 → x = 16 ∨ ft_i kd x := fun _ => Or.inr f1
  have hyi : ms_c 22 = 2 → ft_i kd y := fun _ => f3
  obtain ⟨j, K, A, W, T, D, B, S, L, e, hj, rfl, R, hX⟩ := ac_ex hA f1 (fun w => hnb (Or.inl ⟨by decide, w⟩))
  obtain ⟨j', K', A', W', T', D', B', S', L', e', hj', rfl, R', hX'⟩ := ac_ex hA f3 (fun w => hnb (Or.inr ⟨rfl, w⟩))
  obtain ⟨st', dr', oth', ch', ok', mX, mY⟩ := ty_pair (cn := nI n) (ck := 1) (fp := fp) (pg := pg) (ob := ob) (hr := nI h) (sp := nI (t + 1)) (ix := ix) (sz := sz) (pf := nI p) (sc := nI c) (ye := -1) (yj := 0) (st := st) (kd := kd) (pl := pl) (wd := wd) (tm := tm) (dg := dg) (dc := dc) (ss := ss) (pc := pc) (op := op) (ox := ox) (oy := oy) (oz := oz) (ps := ps) (jp := jp) (oi := oi) (pa := pa) (pt := pt) (sh := sh) (lc := lc) (rc := rc) (dr := dr) (ln := ln) (sn := sn) (sd := sd) (ch := ch) (oth := oth) (lw := lw) (hg := hg) (le := le) (bk := bk) (fm := fm) (vy := vy) (z := z) ok hj R hX hj' R' hX' (fs_K (s := 1) hj' (by omega) f2 R')
  obtain ⟨u', v', R'', gX, gY⟩ := fg_go (fp := fp) (pg := pg) (ob := ob) (hr := nI h) (ix := ix) (sz := sz) (st := st') (kd := kd) (pl := pl) (wd := wd) (tm := tm) (dg := dg) (dc := dc) (ss := ss) (pc := pc) (op := op) (ox := ox) (oy := oy) (oz := oz) (ps := ps) (jp := jp) (oi := oi) (pa := pa) (pt := pt) (sh := sh) (lc := lc) (rc := rc) (dr := dr') (ln := ln) (sn := sn) (sd := sd) (ch := ch') (oth := oth') (lw := lw) (hg := hg) (le := le) (bk := bk) (fm := fm) (vy := vy) (t := t) (c := c) (h := h + 1) hn (show h + 1 ≤ n by omega) hp6 (by omega) ((show c ≤ 12 * (t + 1) by omega)) hsz ok' hA Pg hF
  refine Or.inr ⟨u', v', R'', fun post hp => ?_, fun post hp => ?_⟩
  · exact br_t (nI_lt hh (by omega)) (br_t (nI_lt (b := 500) ht (by decide)) (nm_r (nI_1 t) ⟨vh, nm_r eo ⟨vh, nm_r ex ⟨vh, nm_r ey ⟨vh, nm_r ez (xm_tab (o := 22) (by decide) (fun w => absurd w hnb) (fun _ => br_t rfl (nm_r (nI_1 h) (br_f (by decide) (br_f (by decide) (br_f (by decide) (br_f (by decide) (br_f (by decide) (br_f (by decide) (br_f (by decide) (br_f (by decide) (br_f (by decide) (br_f (by decide) (br_f (by decide) (br_f (by decide) (br_f (by decide) (br_f (by decide) (br_f (by decide) (br_f (by decide) (br_f (by decide) (br_f (by decide) (br_f (by decide) (br_f (by decide) (br_f (by decide) (br_f (by decide) (br_f (by decide) (br_t rfl (mX _ (gX post hp)))))))))))))))))))))))))))))⟩⟩⟩⟩))
  · obtain ⟨m, hm⟩ := gY post hp
    exact yg_step hn hh hp6 ht Pg hal ⟨m, ym_tab (o := 22) (by omega) (by decide) e1 e2 e3 e4 hxi hyi (fun w => absurd w hnb) (fun _ => br_f (by decide) (br_f (by decide) (br_f (by decide) (yc_182 (by decide) (yc_215 (by decide) (br_f (by decide) (br_f (by decide) (br_f (by decide) (br_f (by decide) (br_f (by decide) (br_f (by decide) (br_t rfl (mY _ (nm_r (nI_1 h) hm))))))))))))))⟩
theorem so_20 (H : sh_H n h p c t 20 ix sz yj x y z st kd pl wd tm dg dc ss pc ln sn sd op ox oy oz ps jp pa pt lw hg le bk fm vy) : so_O t (nI n, 1, fp, pg, ob, nI h, nI t, ix, sz, nI p, nI c, st, kd, pl, wd, tm, dg, dc, ss, pc, op, ox, oy, oz, ps, jp, oi, pa, pt, sh, lc, rc, dr) (nI n, fp, 1, nI p, nI h, nI t, ix, nI c, (-1), sz, yj, st, kd, pl, ln, dc, tm, sn, sd, op, ox, oy, oz, sh, ch, oth, lw, hg, le, bk, fm, vy) := by
  obtain ⟨hn, hh, hp6, ht, hc, hsz, ok, hA, Pg, hF, hal, ⟨e1, e2, e3, e4⟩, hft, hnb⟩ := H
  have vh : vp_in (nI h) 48 := vp_in_nI (by omega) (by decide)
  have ch1 : (nI h).toNatClampNeg = h := nI_clamp (by omega)
  have eo : op (nI h).toNatClampNeg = nI 20 := by rw [ch1, e1]
  have ex : ox (nI h).toNatClampNeg = x := by rw [ch1, e2]
  have ey : oy (nI h).toNatClampNeg = y := by rw [ch1, e3]
  have ez : oz (nI h).toNatClampNeg = z := by rw [ch1, e4]
  have f1 := hft.2.2.2.2.2.2.2.1 rfl
  have f0 : x = 16 ∨ ft_i kd x := f1.imp id (fs_i (by decide))
  have hxi : 1 ≤ ms_c 20 → x = 16 ∨ ft_i kd x := fun _ => f0
  have hyi : ms_c 20 = 2 → ft_i kd y := (fun w => absurd w (by decide))
  obtain ⟨V, d, O⟩ := od_ex (st := st) (z := z) hA f0 (fun w => hnb (Or.inl ⟨by decide, w⟩))
  obtain ⟨b1, b2⟩ := od_b O
  obtain ⟨s, m0, g1, g2, g3⟩ := ar_ex V
  have eq0 : rd_q m0 (10 ^ d) false = m0 / 10 ^ d := by
    unfold rd_q
    rw [if_neg (fun w => absurd w.1 (by decide))]
  obtain ⟨u', v', R', gX, gY⟩ := fg_go (fp := fp) (pg := pg) (ob := ob) (hr := nI h) (ix := (ar_l (ar_s s (m0 / 10 ^ d))).toInt32) (sz := sz) (st := st) (kd := kd) (pl := pl) (wd := wd) (tm := tm) (dg := dg) (dc := dc) (ss := ss) (pc := pc) (op := op) (ox := ox) (oy := oy) (oz := oz) (ps := ps) (jp := jp) (oi := oi) (pa := pa) (pt := pt) (sh := sh) (lc := lc) (rc := rc) (dr := dr) (ln := ln) (sn := sn) (sd := sd) (ch := ch) (oth := oth) (lw := lw) (hg := hg) (le := le) (bk := bk) (fm := fm) (vy := vy) (t := t) (c := c) (h := h + 1) hn (show h + 1 ≤ n by omega) hp6 (by omega) ((show c ≤ 12 * (t + 1) by omega)) hsz ok hA Pg hF
  have hcp := cp_p9 b2
  refine Or.inr ⟨u', v', R', fun post hp => ?_, fun post hp => ?_⟩
  · have hset : wpX_setIndex (fun u => match u with | (cn, ck, fp, pg, ob, hr, sp, ix, sz, pf, sc, st, kd, pl, wd, tm, dg, dc, ss, pc, op, ox, oy, oz, ps, jp, oi, pa, pt, sh, lc, rc, dr) => wX_takeStep_344 post (nI (h + 1)) cn ck fp pg ob hr sp ix sz pf sc st kd pl wd tm dg dc ss pc op ox oy oz ps jp oi pa pt sh lc rc dr) (nI n, 1, fp, pg, ob, nI h, nI (t + 1), ix, sz, nI p, nI c, st, kd, pl, wd, tm, dg, dc, ss, pc, op, ox, oy, oz, ps, jp, oi, pa, pt, sh, lc, rc, dr) x z := by
      unfold wpX_setIndex
      refine xo_val ok O ?_
      refine xo_dec O ?_
      rw [g1]
      refine xw_short (r := false) b2 (by omega) ?_
      rw [eq0]
      exact gX post hp
    exact br_t (nI_lt hh (by omega)) (br_t (nI_lt (b := 500) ht (by decide)) (nm_r (nI_1 t) ⟨vh, nm_r eo ⟨vh, nm_r ex ⟨vh, nm_r ey ⟨vh, nm_r ez (xm_tab (o := 20) (by decide) (fun w => absurd w hnb) (fun _ => br_t rfl (nm_r (nI_1 h) (br_f (by decide) (br_f (by decide) (br_f (by decide) (br_f (by decide) (br_f (by decide) (br_f (by decide) (br_f (by decide) (br_f (by decide) (br_f (by decide) (br_f (by decide) (br_f (by decide) (br_f (by decide) (br_f (by decide) (br_f (by decide) (br_f (by decide) (br_f (by decide) (br_f (by decide) (br_f (by decide) (br_f (by decide) (br_f (by decide) (br_f (by decide) (br_t rfl (hset))))))))))))))))))))))))))⟩⟩⟩⟩))
  · obtain ⟨m, hm⟩ := gY post hp
    refine yg_step hn hh hp6 ht Pg hal ⟨m, ym_tab (o := 20) (by omega) (by decide) e1 e2 e3 e4 hxi hyi (fun w => absurd w hnb) (fun _ => br_f (by decide) (br_f (by decide) (br_f (by decide) (yc_182 (by decide) (yc_215 (by decide) (br_f (by decide) (br_f (by decide) (br_f (by decide) (br_f (by decide) ?_)))))))))⟩
    refine br_t rfl ?_
    have fin : ∀ w : Int64, w = ar_l (ar_s s (m0 / 10 ^ d)) → wY_step_386 (fun u => match u with | (cn, fp, ck, pf, hr, sp, ix, sc, ye, sz, yj, st, kd, pl, ln, dc, tm, sn, sd, op, ox, oy, oz, sh, ch, oth, lw, hg, le, bk, fm, vy) => wY_run_49 post m cn fp ck pf hr sp ix sc ye sz yj st kd pl ln dc tm sn sd op ox oy oz sh ch oth lw hg le bk fm vy) 20 x y z w (nI n) fp 1 (nI p) (nI h) (nI (t + 1)) ix (nI c) (-1) sz 0 st kd pl ln dc tm sn sd op ox oy oz sh ch oth lw hg le bk fm vy := by
      intro w ew
      subst ew
      exact br_f (by decide) (br_f (by decide) (nm_r (nI_1 h) hm))
    rcases O with ⟨q0, q1, q2⟩ | ⟨j', K', A', W', T', D', B', S', L', e', hj', q0, R1, hx', q1, q2⟩
    · subst q0 q2
      refine br_t rfl (fin _ ?_)
      rw [Nat.pow_zero, Nat.div_one, ← g1, q1]
      rfl
    · subst q0 q2
      refine br_f (nI_16 hj') (yi_elem hj' R1 hx' (yv_value hj' R1 hx'.1 hx'.2.1 ok ⟨vp_in_nI hj' (by decide), ?_⟩))
      rw [nI_clamp (show j' < 2 ^ 31 by omega), R1.1.2.2.2.2.2.1]
      refine yw_ten (by omega) ⟨ar_n0 (ar_pp _) (by omega), fin _ ?_⟩
      rw [← q1, g1, ar_div (ar_sB (by omega)) (ar_nB (by omega)), ar_td]
end
end
section
/-! PERFORM and PERFORM VARYING -/
section
variable {cn ck fp pg ob hr sp ix sz pf sc ye yj : Int32}
variable {st kd pl wd tm dg dc ss pc op ox oy oz ps jp oi pa pt sh lc rc dr ln sn sd ch oth lw hg le bk fm vy : Nat → Int32}
variable {n h p c t : Nat} {x y z o : Int32}
theorem so_15 (H : sh_H n h p c t 15 ix sz yj x y z st kd pl wd tm dg dc ss pc ln sn sd op ox oy oz ps jp pa pt lw hg le bk fm vy) : so_O t (nI n, 1, fp, pg, ob, nI h, nI t, ix, sz, nI p, nI c, st, kd, pl, wd, tm, dg, dc, ss, pc, op, ox, oy, oz, ps, jp, oi, pa, pt, sh, lc, rc, dr) (nI n, fp, 1, nI p, nI h, nI t, ix, nI c, (-1), sz, yj, st, kd, pl, ln, dc, tm, sn, sd, op, ox, oy, oz, sh, ch, oth, lw, hg, le, bk, fm, vy) := by
  obtain ⟨hn, hh, hp6, ht, hc, hsz, ok, hA, Pg, hF, hal, ⟨e1, e2, e3, e4⟩, hft, hnb⟩ := H
  have vh : vp_in (nI h) 48 := vp_in_nI (by omega) (by decide)
  have ch1 : (nI h).toNatClampNeg = h := nI_clamp (by omega)
  have eo : op (nI h).toNatClampNeg = nI 15 := by rw [ch1, e1]
  have ex : ox (nI h).toNatClampNeg = x := by rw [ch1, e2]
  have ey : oy (nI h).toNatClampNeg = y := by rw [ch1, e3]
  have ez : oz (nI h).toNatClampNeg = z := by rw [ch1, e4]
  obtain ⟨a, b, rfl, rfl, hab, hb⟩ := hft.2.2.2.2.1 (Or.inl rfl)
  have hxi : 1 ≤ ms_c 15 → nI a = 16 ∨ ft_i kd (nI a) := (fun w => absurd w (by decide))
  have hyi : ms_c 15 = 2 → ft_i kd (nI b) := (fun w => absurd w (by decide))
  have hbn := tb_le op n
  by_cases hz : z ≤ 0
  · have hz1 : ¬ 1 ≤ z := fun w => absurd (Int32.le_trans w hz) (by decide)
    obtain ⟨u', v', R', gX, gY⟩ := fg_go (fp := fp) (pg := pg) (ob := ob) (hr := nI h) (ix := ix) (sz := sz) (st := st) (kd := kd) (pl := pl) (wd := wd) (tm := tm) (dg := dg) (dc := dc) (ss := ss) (pc := pc) (op := op) (ox := ox) (oy := oy) (oz := oz) (ps := ps) (jp := jp) (oi := oi) (pa := pa) (pt := pt) (sh := sh) (lc := lc) (rc := rc) (dr := dr) (ln := ln) (sn := sn) (sd := sd) (ch := ch) (oth := oth) (lw := lw) (hg := hg) (le := le) (bk := bk) (fm := fm) (vy := vy) (t := t) (c := c) (h := h + 1) hn (show h + 1 ≤ n by omega) hp6 (by omega) ((show c ≤ 12 * (t + 1) by omega)) hsz ok hA Pg hF
    refine Or.inr ⟨u', v', R', fun post hp => ?_, fun post hp => ?_⟩
    · exact br_t (nI_lt hh (by omega)) (br_t (nI_lt (b := 500) ht (by decide)) (nm_r (nI_1 t) ⟨vh, nm_r eo ⟨vh, nm_r ex ⟨vh, nm_r ey ⟨vh, nm_r ez (xm_tab (o := 15) (by decide) (fun w => absurd w hnb) (fun _ => br_t rfl (nm_r (nI_1 h) (br_f (by decide) (br_f (by decide) (br_f (by decide) (br_f (by decide) (br_f (by decide) (br_f (by decide) (br_f (by decide) (br_f (by decide) (br_f (by decide) (br_f (by decide) (br_f (by decide) (br_f (by decide) (br_f (by decide) (br_f (by decide) (br_f (by decide) (br_f (by decide) (br_t rfl (br_t hz (gX post hp))))))))))))))))))))))⟩⟩⟩⟩))
    · obtain ⟨m, hm⟩ := gY post hp
      exact yg_step hn hh hp6 ht Pg hal ⟨m, ym_tab (o := 15) (by omega) (by decide) e1 e2 e3 e4 hxi hyi (fun w => absurd w hnb) (fun _ => br_t rfl (br_f (by decide) (br_f hz1 (nm_r (nI_1 h) hm))))⟩
  · have hz0 : ¬ z < 0 := fun w => hz (Int32.le_of_lt w)
    obtain ⟨ζ, hζ, rfl⟩ := nI_of hz0
    have hζ1 : 1 ≤ ζ := by
      rcases Nat.eq_zero_or_pos ζ with w | w
      · subst w
        exact absurd (show nI 0 ≤ 0 by decide) hz
      · exact w
    have hz1 : 1 ≤ nI ζ := nI_le (a := 1) hζ1 hζ
    by_cases hp : p = 6
    · subst hp
      refine Or.inl ⟨3, (nI n, 1, fp, pg, ob, nI h, nI (t + 1), ix, sz, nI 6, nI c, st, kd, pl, wd, tm, dg, dc, ss, pc, op, ox, oy, oz, ps, jp, oi, pa, pt, sh, lc, rc, dr), (nI n, fp, 1, nI 6, nI h, nI (t + 1), ix, nI c, 3, sz, 0, st, kd, pl, ln, dc, tm, sn, sd, op, ox, oy, oz, sh, ch, oth, lw, hg, le, bk, fm, vy), by decide, ⟨⟨rfl, rfl, rfl, rfl, rfl, rfl, rfl, rfl, rfl, rfl, rfl, rfl, rfl, rfl, rfl, rfl, rfl⟩, rl_of hn hsz ok hA Pg rfl⟩, fun post hp => ?_, fun post hp => ?_⟩
      · exact br_t (nI_lt hh (by omega)) (br_t (nI_lt (b := 500) ht (by decide)) (nm_r (nI_1 t) ⟨vh, nm_r eo ⟨vh, nm_r ex ⟨vh, nm_r ey ⟨vh, nm_r ez (xm_tab (o := 15) (by decide) (fun w => absurd w hnb) (fun _ => br_t rfl (nm_r (nI_1 h) (br_f (by decide) (br_f (by decide) (br_f (by decide) (br_f (by decide) (br_f (by decide) (br_f (by decide) (br_f (by decide) (br_f (by decide) (br_f (by decide) (br_f (by decide) (br_f (by decide) (br_f (by decide) (br_f (by decide) (br_f (by decide) (br_f (by decide) (br_f (by decide) (br_t rfl (br_f hz (br_f (by decide) hp))))))))))))))))))))))⟩⟩⟩⟩))
      · exact yg_step hn hh hp6 ht Pg hal ⟨1, ym_tab (o := 15) (by omega) (by decide) e1 e2 e3 e4 hxi hyi (fun w => absurd w hnb) (fun _ => br_t rfl (br_f (by decide) (br_t hz1 (br_t rfl (br_t (by decide) hp)))))⟩
    · have v6 : vp_in (nI p) 6 := vp_in_nI (by omega) (by decide)
      have cp : (nI p).toNatClampNeg = p := nI_clamp (by omega)
      obtain ⟨k0, e, a1, a2, a3, a4, -⟩ := tb_par Pg.2.2.1 (show a < tb_z op n by omega)
      have hix : (ix : Int32) = if op h = 16 then nI (0 + 1) else ix := by
        rw [e1]
        exact (if_neg (by decide)).symm
      have hvy : vp_nar .boolean 0 = if op h = 16 then 1 else 0 := by
        rw [e1]
        exact (if_neg (by decide)).symm
      have hp6' : ¬ nI p = 6 := fun w => hp ((nI_eq (b := 6) (by omega) (by decide)).mp w)
      have hpush : rn_F op ox oy oz (upd pa p (nI h)) (upd (upd pt p 0) p (nI (0 + 1))) (upd lw p (nI a)) (upd hg p (nI b)) (upd le p (nI ζ)) (upd bk p (nI h + 1)) (upd fm p 1) (upd vy p (vp_nar .boolean 0)) n (p + 1) := by
        rw [pk_uu]
        exact rn_push (i := h) (ζ := ζ) hF hh (by rw [e1]; decide) e4 hζ1 hζ rfl rfl e2.symm e3.symm e4.symm (nI_1 h) rfl hvy
      refine Or.inr ⟨(nI n, 1, fp, pg, ob, nI k0, nI (t + 1), ix, sz, nI (p + 1), nI c, st, kd, pl, wd, tm, dg, dc, ss, pc, op, ox, oy, oz, ps, jp, oi, upd pa p (nI h), upd (upd pt p 0) p (nI (0 + 1)), sh, lc, rc, dr), (nI n, fp, 1, nI (p + 1), nI k0, nI (t + 1), ix, nI c, (-1), sz, 1, st, kd, pl, ln, dc, tm, sn, sd, op, ox, oy, oz, sh, ch, oth, upd lw p (nI a), upd hg p (nI b), upd le p (nI ζ), upd bk p (nI h + 1), upd fm p 1, upd vy p (vp_nar .boolean 0)), ⟨⟨rfl, rfl, rfl, rfl, rfl, rfl, rfl, rfl, rfl, rfl, rfl, rfl, rfl, rfl, rfl, rfl, rfl⟩, ⟨rfl, rfl⟩, n, k0, p + 1, c, ⟨rfl, rfl, rfl, rfl, rfl, rfl, rfl⟩, hn, by omega, by omega, by omega, by omega, hsz, Or.inr rfl, ok, hA, Pg, hpush, Or.inl (by decide)⟩, fun post hp => ?_, fun post hp => ?_⟩
      · have hbt : wpX_beginPerform (fun r u => match u with | (cn, ck, fp, pg, ob, hr, sp, ix, sz, pf, sc, st, kd, pl, wd, tm, dg, dc, ss, pc, op, ox, oy, oz, ps, jp, oi, pa, pt, sh, lc, rc, dr) => post r (cn, ck, fp, pg, ob, hr, sp, ix, sz, pf, sc, st, kd, pl, wd, tm, dg, dc, ss, pc, op, ox, oy, oz, ps, jp, oi, pa, pt, sh, lc, rc, dr)) (nI n, 1, fp, pg, ob, nI h, nI (t + 1), ix, sz, nI p, nI c, st, kd, pl, wd, tm, dg, dc, ss, pc, op, ox, oy, oz, ps, jp, oi, pa, pt, sh, lc, rc, dr) := by
          refine br_t (nI_lt (b := 6) (by omega) (by decide)) ⟨v6, ?_⟩
          rw [cp]
          refine nm_e ⟨v6, nm_e (nm_r (nI_1 p) ?_)⟩
          exact xg_time (i := h) (τ := 0) (a := a) (by omega) (by omega) pk_us pk_us e2 (by omega) a4 hix hp
        exact br_t (nI_lt hh (by omega)) (br_t (nI_lt (b := 500) ht (by decide)) (nm_r (nI_1 t) ⟨vh, nm_r eo ⟨vh, nm_r ex ⟨vh, nm_r ey ⟨vh, nm_r ez (xm_tab (o := 15) (by decide) (fun w => absurd w hnb) (fun _ => br_t rfl (nm_r (nI_1 h) (br_f (by decide) (br_f (by decide) (br_f (by decide) (br_f (by decide) (br_f (by decide) (br_f (by decide) (br_f (by decide) (br_f (by decide) (br_f (by decide) (br_f (by decide) (br_f (by decide) (br_f (by decide) (br_f (by decide) (br_f (by decide) (br_f (by decide) (br_f (by decide) (br_t rfl (br_f hz hbt)))))))))))))))))))))⟩⟩⟩⟩))
      · obtain ⟨m, hm⟩ := hp
        have hpf : wpY_perform (fun u => match u with | (cn, fp, ck, pf, hr, sp, ix, sc, ye, sz, yj, st, kd, pl, ln, dc, tm, sn, sd, op, ox, oy, oz, sh, ch, oth, lw, hg, le, bk, fm, vy) => wY_run_49 post m cn fp ck pf hr sp ix sc ye sz yj st kd pl ln dc tm sn sd op ox oy oz sh ch oth lw hg le bk fm vy) (nI n, fp, 1, nI p, nI h, nI (t + 1), ix, nI c, (-1), sz, 0, st, kd, pl, ln, dc, tm, sn, sd, op, ox, oy, oz, sh, ch, oth, lw, hg, le, bk, fm, vy) 0 (nI a) (nI b) (nI ζ) := by
          refine br_t hz1 (br_f hp6' ⟨v6, ?_⟩)
          rw [cp]
          refine nm_e ⟨v6, nm_e ⟨v6, nm_e ⟨v6, nm_e ⟨v6, nm_e ⟨v6, nm_e (nm_r (nI_1 p) ?_)⟩⟩⟩⟩⟩
          exact br_t rfl (yb_begin (by omega) a2 a3 hm)
        exact yg_step hn hh hp6 ht Pg hal ⟨m, ym_tab (o := 15) (by omega) (by decide) e1 e2 e3 e4 hxi hyi (fun w => absurd w hnb) (fun _ => br_t rfl (br_f (by decide) (hpf)))⟩
theorem so_16 (H : sh_H n h p c t 16 ix sz yj x y z st kd pl wd tm dg dc ss pc ln sn sd op ox oy oz ps jp pa pt lw hg le bk fm vy) : so_O t (nI n, 1, fp, pg, ob, nI h, nI t, ix, sz, nI p, nI c, st, kd, pl, wd, tm, dg, dc, ss, pc, op, ox, oy, oz, ps, jp, oi, pa, pt, sh, lc, rc, dr) (nI n, fp, 1, nI p, nI h, nI t, ix, nI c, (-1), sz, yj, st, kd, pl, ln, dc, tm, sn, sd, op, ox, oy, oz, sh, ch, oth, lw, hg, le, bk, fm, vy) := by
  obtain ⟨hn, hh, hp6, ht, hc, hsz, ok, hA, Pg, hF, hal, ⟨e1, e2, e3, e4⟩, hft, hnb⟩ := H
  have vh : vp_in (nI h) 48 := vp_in_nI (by omega) (by decide)
  have ch1 : (nI h).toNatClampNeg = h := nI_clamp (by omega)
  have eo : op (nI h).toNatClampNeg = nI 16 := by rw [ch1, e1]
  have ex : ox (nI h).toNatClampNeg = x := by rw [ch1, e2]
  have ey : oy (nI h).toNatClampNeg = y := by rw [ch1, e3]
  have ez : oz (nI h).toNatClampNeg = z := by rw [ch1, e4]
  obtain ⟨a, b, rfl, rfl, hab, hb⟩ := hft.2.2.2.2.1 (Or.inr rfl)
  have hxi : 1 ≤ ms_c 16 → nI a = 16 ∨ ft_i kd (nI a) := (fun w => absurd w (by decide))
  have hyi : ms_c 16 = 2 → ft_i kd (nI b) := (fun w => absurd w (by decide))
  have hbn := tb_le op n
  by_cases hz : z ≤ 0
  · have hz1 : ¬ 1 ≤ z := fun w => absurd (Int32.le_trans w hz) (by decide)
    obtain ⟨u', v', R', gX, gY⟩ := fg_go (fp := fp) (pg := pg) (ob := ob) (hr := nI h) (ix := ix) (sz := sz) (st := st) (kd := kd) (pl := pl) (wd := wd) (tm := tm) (dg := dg) (dc := dc) (ss := ss) (pc := pc) (op := op) (ox := ox) (oy := oy) (oz := oz) (ps := ps) (jp := jp) (oi := oi) (pa := pa) (pt := pt) (sh := sh) (lc := lc) (rc := rc) (dr := dr) (ln := ln) (sn := sn) (sd := sd) (ch := ch) (oth := oth) (lw := lw) (hg := hg) (le := le) (bk := bk) (fm := fm) (vy := vy) (t := t) (c := c) (h := h + 1) hn (show h + 1 ≤ n by omega) hp6 (by omega) ((show c ≤ 12 * (t + 1) by omega)) hsz ok hA Pg hF
    refine Or.inr ⟨u', v', R', fun post hp => ?_, fun post hp => ?_⟩
    · exact br_t (nI_lt hh (by omega)) (br_t (nI_lt (b := 500) ht (by decide)) (nm_r (nI_1 t) ⟨vh, nm_r eo ⟨vh, nm_r ex ⟨vh, nm_r ey ⟨vh, nm_r ez (xm_tab (o := 16) (by decide) (fun w => absurd w hnb) (fun _ => br_t rfl (nm_r (nI_1 h) (br_f (by decide) (br_f (by decide) (br_f (by decide) (br_f (by decide) (br_f (by decide) (br_f (by decide) (br_f (by decide) (br_f (by decide) (br_f (by decide) (br_f (by decide) (br_f (by decide) (br_f (by decide) (br_f (by decide) (br_f (by decide) (br_f (by decide) (br_f (by decide) (br_f (by decide) (br_t rfl (br_t hz (gX post hp)))))))))))))))))))))))⟩⟩⟩⟩))
    · obtain ⟨m, hm⟩ := gY post hp
      exact yg_step hn hh hp6 ht Pg hal ⟨m, ym_tab (o := 16) (by omega) (by decide) e1 e2 e3 e4 hxi hyi (fun w => absurd w hnb) (fun _ => br_f (by decide) (br_t rfl (br_t rfl (br_f hz1 (nm_r (nI_1 h) hm)))))⟩
  · have hz0 : ¬ z < 0 := fun w => hz (Int32.le_of_lt w)
    obtain ⟨ζ, hζ, rfl⟩ := nI_of hz0
    have hζ1 : 1 ≤ ζ := by
      rcases Nat.eq_zero_or_pos ζ with w | w
      · subst w
        exact absurd (show nI 0 ≤ 0 by decide) hz
      · exact w
    have hz1 : 1 ≤ nI ζ := nI_le (a := 1) hζ1 hζ
    by_cases hp : p = 6
    · subst hp
      refine Or.inl ⟨3, (nI n, 1, fp, pg, ob, nI h, nI (t + 1), ix, sz, nI 6, nI c, st, kd, pl, wd, tm, dg, dc, ss, pc, op, ox, oy, oz, ps, jp, oi, pa, pt, sh, lc, rc, dr), (nI n, fp, 1, nI 6, nI h, nI (t + 1), ix, nI c, 3, sz, 0, st, kd, pl, ln, dc, tm, sn, sd, op, ox, oy, oz, sh, ch, oth, lw, hg, le, bk, fm, vy), by decide, ⟨⟨rfl, rfl, rfl, rfl, rfl, rfl, rfl, rfl, rfl, rfl, rfl, rfl, rfl, rfl, rfl, rfl, rfl⟩, rl_of hn hsz ok hA Pg rfl⟩, fun post hp => ?_, fun post hp => ?_⟩
      · exact br_t (nI_lt hh (by omega)) (br_t (nI_lt (b := 500) ht (by decide)) (nm_r (nI_1 t) ⟨vh, nm_r eo ⟨vh, nm_r ex ⟨vh, nm_r ey ⟨vh, nm_r ez (xm_tab (o := 16) (by decide) (fun w => absurd w hnb) (fun _ => br_t rfl (nm_r (nI_1 h) (br_f (by decide) (br_f (by decide) (br_f (by decide) (br_f (by decide) (br_f (by decide) (br_f (by decide) (br_f (by decide) (br_f (by decide) (br_f (by decide) (br_f (by decide) (br_f (by decide) (br_f (by decide) (br_f (by decide) (br_f (by decide) (br_f (by decide) (br_f (by decide) (br_f (by decide) (br_t rfl (br_f hz (br_f (by decide) hp)))))))))))))))))))))))⟩⟩⟩⟩))
      · exact yg_step hn hh hp6 ht Pg hal ⟨1, ym_tab (o := 16) (by omega) (by decide) e1 e2 e3 e4 hxi hyi (fun w => absurd w hnb) (fun _ => br_f (by decide) (br_t rfl (br_t rfl (br_t hz1 (br_t rfl (br_t (by decide) hp))))))⟩
    · have v6 : vp_in (nI p) 6 := vp_in_nI (by omega) (by decide)
      have cp : (nI p).toNatClampNeg = p := nI_clamp (by omega)
      obtain ⟨k0, e, a1, a2, a3, a4, -⟩ := tb_par Pg.2.2.1 (show a < tb_z op n by omega)
      have hix : (1 : Int32) = if op h = 16 then nI (0 + 1) else ix := by
        rw [e1]
        exact (if_pos rfl).symm
      have hvy : vp_nar .boolean 1 = if op h = 16 then 1 else 0 := by
        rw [e1]
        exact (if_pos rfl).symm
      have hp6' : ¬ nI p = 6 := fun w => hp ((nI_eq (b := 6) (by omega) (by decide)).mp w)
      have hpush : rn_F op ox oy oz (upd pa p (nI h)) (upd (upd pt p 0) p (nI (0 + 1))) (upd lw p (nI a)) (upd hg p (nI b)) (upd le p (nI ζ)) (upd bk p (nI h + 1)) (upd fm p 1) (upd vy p (vp_nar .boolean 1)) n (p + 1) := by
        rw [pk_uu]
        exact rn_push (i := h) (ζ := ζ) hF hh (by rw [e1]; decide) e4 hζ1 hζ rfl rfl e2.symm e3.symm e4.symm (nI_1 h) rfl hvy
      refine Or.inr ⟨(nI n, 1, fp, pg, ob, nI k0, nI (t + 1), 1, sz, nI (p + 1), nI c, st, kd, pl, wd, tm, dg, dc, ss, pc, op, ox, oy, oz, ps, jp, oi, upd pa p (nI h), upd (upd pt p 0) p (nI (0 + 1)), sh, lc, rc, dr), (nI n, fp, 1, nI (p + 1), nI k0, nI (t + 1), 1, nI c, (-1), sz, 1, st, kd, pl, ln, dc, tm, sn, sd, op, ox, oy, oz, sh, ch, oth, upd lw p (nI a), upd hg p (nI b), upd le p (nI ζ), upd bk p (nI h + 1), upd fm p 1, upd vy p (vp_nar .boolean 1)), ⟨⟨rfl, rfl, rfl, rfl, rfl, rfl, rfl, rfl, rfl, rfl, rfl, rfl, rfl, rfl, rfl, rfl, rfl⟩, ⟨rfl, rfl⟩, n, k0, p + 1, c, ⟨rfl, rfl, rfl, rfl, rfl, rfl, rfl⟩, hn, by omega, by omega, by omega, by omega, hsz, Or.inr rfl, ok, hA, Pg, hpush, Or.inl (by decide)⟩, fun post hp => ?_, fun post hp => ?_⟩
      · have hbt : wpX_beginPerform (fun r u => match u with | (cn, ck, fp, pg, ob, hr, sp, ix, sz, pf, sc, st, kd, pl, wd, tm, dg, dc, ss, pc, op, ox, oy, oz, ps, jp, oi, pa, pt, sh, lc, rc, dr) => post r (cn, ck, fp, pg, ob, hr, sp, ix, sz, pf, sc, st, kd, pl, wd, tm, dg, dc, ss, pc, op, ox, oy, oz, ps, jp, oi, pa, pt, sh, lc, rc, dr)) (nI n, 1, fp, pg, ob, nI h, nI (t + 1), ix, sz, nI p, nI c, st, kd, pl, wd, tm, dg, dc, ss, pc, op, ox, oy, oz, ps, jp, oi, pa, pt, sh, lc, rc, dr) := by
          refine br_t (nI_lt (b := 6) (by omega) (by decide)) ⟨v6, ?_⟩
          rw [cp]
          refine nm_e ⟨v6, nm_e (nm_r (nI_1 p) ?_)⟩
          exact xg_time (i := h) (τ := 0) (a := a) (by omega) (by omega) pk_us pk_us e2 (by omega) a4 hix hp
        exact br_t (nI_lt hh (by omega)) (br_t (nI_lt (b := 500) ht (by decide)) (nm_r (nI_1 t) ⟨vh, nm_r eo ⟨vh, nm_r ex ⟨vh, nm_r ey ⟨vh, nm_r ez (xm_tab (o := 16) (by decide) (fun w => absurd w hnb) (fun _ => br_t rfl (nm_r (nI_1 h) (br_f (by decide) (br_f (by decide) (br_f (by decide) (br_f (by decide) (br_f (by decide) (br_f (by decide) (br_f (by decide) (br_f (by decide) (br_f (by decide) (br_f (by decide) (br_f (by decide) (br_f (by decide) (br_f (by decide) (br_f (by decide) (br_f (by decide) (br_f (by decide) (br_f (by decide) (br_t rfl (br_f hz hbt))))))))))))))))))))))⟩⟩⟩⟩))
      · obtain ⟨m, hm⟩ := hp
        have hpf : wpY_perform (fun u => match u with | (cn, fp, ck, pf, hr, sp, ix, sc, ye, sz, yj, st, kd, pl, ln, dc, tm, sn, sd, op, ox, oy, oz, sh, ch, oth, lw, hg, le, bk, fm, vy) => wY_run_49 post m cn fp ck pf hr sp ix sc ye sz yj st kd pl ln dc tm sn sd op ox oy oz sh ch oth lw hg le bk fm vy) (nI n, fp, 1, nI p, nI h, nI (t + 1), ix, nI c, (-1), sz, 0, st, kd, pl, ln, dc, tm, sn, sd, op, ox, oy, oz, sh, ch, oth, lw, hg, le, bk, fm, vy) 1 (nI a) (nI b) (nI ζ) := by
          refine br_t hz1 (br_f hp6' ⟨v6, ?_⟩)
          rw [cp]
          refine nm_e ⟨v6, nm_e ⟨v6, nm_e ⟨v6, nm_e ⟨v6, nm_e ⟨v6, nm_e (nm_r (nI_1 p) ?_)⟩⟩⟩⟩⟩
          exact br_f (by decide) (yb_begin (by omega) a2 a3 hm)
        exact yg_step hn hh hp6 ht Pg hal ⟨m, ym_tab (o := 16) (by omega) (by decide) e1 e2 e3 e4 hxi hyi (fun w => absurd w hnb) (fun _ => br_f (by decide) (br_t rfl (br_t rfl (hpf))))⟩
end
end
section
/-! a run whole -/
theorem ft_x {kd : Nat → Int32} {np o : Nat} {x y z : Int32} (h : ft_G kd np o x y z) (ho : o ≤ 22) (hc : 1 ≤ ms_c o) : x = 16 ∨ ft_i kd x := by
  obtain ⟨h1, h2, h3, h4, -, -, h7, h8, h9⟩ := h
  rcases (show o = 0 ∨ o = 1 ∨ o = 2 ∨ o = 3 ∨ o = 4 ∨ o = 5 ∨ o = 6 ∨ o = 7 ∨ o = 8 ∨ o = 9 ∨ o = 10 ∨ o = 11 ∨ o = 12 ∨ o = 13 ∨ o = 14 ∨ o = 15 ∨ o = 16 ∨ o = 17 ∨ o = 18 ∨ o = 19 ∨ o = 20 ∨ o = 21 ∨ o = 22 by omega) with e | e | e | e | e | e | e | e | e | e | e | e | e | e | e | e | e | e | e | e | e | e | e <;> subst e
  · exact absurd hc (by decide)
  · exact (h1 rfl).1
  · exact (h2 (by decide) (by decide)).1.imp id (fs_i (by decide))
  · exact (h2 (by decide) (by decide)).1.imp id (fs_i (by decide))
  · exact (h2 (by decide) (by decide)).1.imp id (fs_i (by decide))
  · exact (h2 (by decide) (by decide)).1.imp id (fs_i (by decide))
  · exact (h2 (by decide) (by decide)).1.imp id (fs_i (by decide))
  · exact (h2 (by decide) (by decide)).1.imp id (fs_i (by decide))
  · exact (h2 (by decide) (by decide)).1.imp id (fs_i (by decide))
  · exact (h2 (by decide) (by decide)).1.imp id (fs_i (by decide))
  · exact Or.inr (fc_i (h3 rfl).1)
  · exact absurd hc (by decide)
  · exact Or.inr (fc_i (h4 rfl))
  · exact absurd hc (by decide)
  · exact absurd hc (by decide)
  · exact absurd hc (by decide)
  · exact absurd hc (by decide)
  · exact absurd hc (by decide)
  · exact absurd hc (by decide)
  · exact h7 rfl
  · exact (h8 rfl).imp id (fs_i (by decide))
  · exact absurd hc (by decide)
  · exact Or.inr (h9 rfl).1
theorem ft_y {kd : Nat → Int32} {np o : Nat} {x y z : Int32} (h : ft_G kd np o x y z) (ho : o ≤ 22) (hc : ms_c o = 2) : ft_i kd y := by
  obtain ⟨h1, h2, h3, -, -, -, -, -, h9⟩ := h
  rcases (show o = 0 ∨ o = 1 ∨ o = 2 ∨ o = 3 ∨ o = 4 ∨ o = 5 ∨ o = 6 ∨ o = 7 ∨ o = 8 ∨ o = 9 ∨ o = 10 ∨ o = 11 ∨ o = 12 ∨ o = 13 ∨ o = 14 ∨ o = 15 ∨ o = 16 ∨ o = 17 ∨ o = 18 ∨ o = 19 ∨ o = 20 ∨ o = 21 ∨ o = 22 by omega) with e | e | e | e | e | e | e | e | e | e | e | e | e | e | e | e | e | e | e | e | e | e | e <;> subst e
  · exact absurd hc (by decide)
  · exact (h1 rfl).2
  · exact fs_i (by decide) (h2 (by decide) (by decide)).2
  · exact fs_i (by decide) (h2 (by decide) (by decide)).2
  · exact fs_i (by decide) (h2 (by decide) (by decide)).2
  · exact fs_i (by decide) (h2 (by decide) (by decide)).2
  · exact fs_i (by decide) (h2 (by decide) (by decide)).2
  · exact fs_i (by decide) (h2 (by decide) (by decide)).2
  · exact fs_i (by decide) (h2 (by decide) (by decide)).2
  · exact fs_i (by decide) (h2 (by decide) (by decide)).2
  · exact fc_i (h3 rfl).2.1
  · exact absurd hc (by decide)
  · exact absurd hc (by decide)
  · exact absurd hc (by decide)
  · exact absurd hc (by decide)
  · exact absurd hc (by decide)
  · exact absurd hc (by decide)
  · exact absurd hc (by decide)
  · exact absurd hc (by decide)
  · exact absurd hc (by decide)
  · exact absurd hc (by decide)
  · exact absurd hc (by decide)
  · exact fs_i (by decide) (h9 rfl).2
theorem so_all {t : Nat} {u : SX} {v : SY} (H : rr_R t u v) : so_O t u v := by
  obtain ⟨cn, ck, fp, pg, ob, hr, sp, ix, sz, pf, sc, st, kd, pl, wd, tm, dg, dc, ss, pc, op, ox, oy, oz, ps, jp, oi, pa, pt, sh, lc, rc, dr⟩ := u
  obtain ⟨cn', fp', ck', pf', hr', sp', ix', sc', ye, sz', yj, st', kd', pl', ln, dc', tm', sn, sd, op', ox', oy', oz', sh', ch, oth, lw, hg, le, bk, fm, vy⟩ := v
  obtain ⟨⟨rfl, rfl, rfl, rfl, rfl, rfl, rfl, rfl, rfl, rfl, rfl, rfl, rfl, rfl, rfl, rfl, rfl⟩, ⟨rfl, rfl⟩, n, h, p, c, ⟨rfl, rfl, rfl, rfl, rfl, rfl, rfl⟩, hn, hh, hp6, ht, hc, hsz, hyj, ok, hA, Pg, hF, hal⟩ := H
  by_cases h1 : h = n
  · exact so_end hn h1 hp6 hsz ok hA Pg hal
  · by_cases h2 : t = 500
    · exact so_long hn (by omega) hp6 h2 hsz ok hA Pg hal
    · obtain ⟨o, ho, eo, hft⟩ := Pg.2.2.2.1 h (by omega)
      by_cases hb : ms_B ix' kd' tm' o (ox' h) (oy' h)
      · exact so_range ho hn (by omega) hp6 (by omega) hsz ok hA Pg hal eo rfl rfl rfl (ft_x hft ho) (ft_y hft ho) hb
      · have K : ∀ o' : Nat, o = o' → sh_H n h p c t o' ix' sz' yj (ox' h) (oy' h) (oz' h) st' kd' pl' wd tm' dg dc' ss pc ln sn sd op' ox' oy' oz' ps jp pa pt lw hg le bk fm vy := by
          rintro o' rfl
          exact ⟨hn, by omega, hp6, by omega, hc, hsz, ok, hA, Pg, hF, hal, ⟨eo, rfl, rfl, rfl⟩, hft, hb⟩
        rcases (show o = 0 ∨ o = 1 ∨ o = 2 ∨ o = 3 ∨ o = 4 ∨ o = 5 ∨ o = 6 ∨ o = 7 ∨ o = 8 ∨ o = 9 ∨ o = 10 ∨ o = 11 ∨ o = 12 ∨ o = 13 ∨ o = 14 ∨ o = 15 ∨ o = 16 ∨ o = 17 ∨ o = 18 ∨ o = 19 ∨ o = 20 ∨ o = 21 ∨ o = 22 by omega) with e | e | e | e | e | e | e | e | e | e | e | e | e | e | e | e | e | e | e | e | e | e | e
        · exact so_0 (K 0 e)
        · exact so_1 (K 1 e)
        · exact so_2 (K 2 e)
        · exact so_3 (K 3 e)
        · exact so_4 (K 4 e)
        · exact so_5 (K 5 e)
        · exact so_6 (K 6 e)
        · exact so_7 (K 7 e)
        · exact so_8 (K 8 e)
        · exact so_9 (K 9 e)
        · exact so_10 (K 10 e)
        · exact so_11 (K 11 e)
        · exact so_12 (K 12 e)
        · exact so_13 (K 13 e)
        · exact so_14 (K 14 e)
        · exact so_15 (K 15 e)
        · exact so_16 (K 16 e)
        · exact so_17 (K 17 e)
        · exact so_18 (K 18 e)
        · exact so_19 (K 19 e)
        · exact so_20 (K 20 e)
        · exact so_21 (K 21 e)
        · exact so_22 (K 22 e)
def xr_W (post : Int32 → SX → Prop) (m : Nat) (x1 x2 : Int32) (u : SX) : Prop := match u with
  | (cn, ck, fp, pg, ob, hr, sp, ix, sz, pf, sc, st, kd, pl, wd, tm, dg, dc, ss, pc, op, ox, oy, oz, ps, jp, oi, pa, pt, sh, lc, rc, dr) => wX_run_44 post m x1 x2 cn ck fp pg ob hr sp ix sz pf sc st kd pl wd tm dg dc ss pc op ox oy oz ps jp oi pa pt sh lc rc dr
theorem rr_t {t : Nat} {u : SX} {v : SY} (H : rr_R t u v) : t ≤ 500 := by
  obtain ⟨cn, ck, fp, pg, ob, hr, sp, ix, sz, pf, sc, st, kd, pl, wd, tm, dg, dc, ss, pc, op, ox, oy, oz, ps, jp, oi, pa, pt, sh, lc, rc, dr⟩ := u
  obtain ⟨cn', fp', ck', pf', hr', sp', ix', sc', ye, sz', yj, st', kd', pl', ln, dc', tm', sn, sd, op', ox', oy', oz', sh', ch, oth, lw, hg, le, bk, fm, vy⟩ := v
  obtain ⟨-, -, n, h, p, c, -, -, -, -, ht, -⟩ := H
  exact ht
theorem xr_sim : ∀ (d t : Nat) (u : SX) (v : SY), t + d = 500 → rr_R t u v → ∀ postX : Int32 → SX → Prop, (∀ r u' v', iv_R u' v' → (∀ postY, postY r v' → ∃ m, yr_W postY m v) → postX r u') → xr_W postX (d + 2) (-2) (nI t) u
  | 0, t, u, v, hd, H, postX, K => by
    have hso := so_all H
    obtain ⟨cn, ck, fp, pg, ob, hr, sp, ix, sz, pf, sc, st, kd, pl, wd, tm, dg, dc, ss, pc, op, ox, oy, oz, ps, jp, oi, pa, pt, sh, lc, rc, dr⟩ := u
    refine br_f (nI_nlt (a := 500) (b := t) (by omega) (by decide)) (br_t rfl ?_)
    rcases hso with ⟨r, u', v', hne, hI, hX, hY⟩ | ⟨u', v', hR, hX, hY⟩
    · refine hX _ ?_
      obtain ⟨cn, ck, fp, pg, ob, hr, sp, ix, sz, pf, sc, st, kd, pl, wd, tm, dg, dc, ss, pc, op, ox, oy, oz, ps, jp, oi, pa, pt, sh, lc, rc, dr⟩ := u'
      exact nm_r (nI_1 t) (br_c (fun _ => K r _ v' hI hY) (fun _ => br_f hne (K r _ v' hI hY)))
    · have := rr_t hR
      omega
  | d + 1, t, u, v, hd, H, postX, K => by
    have hso := so_all H
    obtain ⟨cn, ck, fp, pg, ob, hr, sp, ix, sz, pf, sc, st, kd, pl, wd, tm, dg, dc, ss, pc, op, ox, oy, oz, ps, jp, oi, pa, pt, sh, lc, rc, dr⟩ := u
    refine br_f (nI_nlt (a := 500) (b := t) (by omega) (by decide)) (br_t rfl ?_)
    rcases hso with ⟨r, u', v', hne, hI, hX, hY⟩ | ⟨u', v', hR, hX, hY⟩
    · refine hX _ ?_
      obtain ⟨cn, ck, fp, pg, ob, hr, sp, ix, sz, pf, sc, st, kd, pl, wd, tm, dg, dc, ss, pc, op, ox, oy, oz, ps, jp, oi, pa, pt, sh, lc, rc, dr⟩ := u'
      exact nm_r (nI_1 t) (br_c (fun _ => K r _ v' hI hY) (fun _ => br_f hne (K r _ v' hI hY)))
    · refine hX _ ?_
      have sim := xr_sim d (t + 1) u' v' (by omega) hR postX (fun r u'' v'' a b => K r u'' v'' a (fun postY hp => hY postY (b postY hp)))
      obtain ⟨cn, ck, fp, pg, ob, hr, sp, ix, sz, pf, sc, st, kd, pl, wd, tm, dg, dc, ss, pc, op, ox, oy, oz, ps, jp, oi, pa, pt, sh, lc, rc, dr⟩ := u'
      exact nm_r (nI_1 t) sim
theorem iv_run {u : SX} {v : SY} (I : iv_R u v) : wpX_run (fun r u' => wpY_run (fun r' v' => r' = r ∧ iv_R u' v') v) u := by
  have I0 := I
  obtain ⟨cn, ck, fp, pg, ob, hr, sp, ix, sz, pf, sc, st, kd, pl, wd, tm, dg, dc, ss, pc, op, ox, oy, oz, ps, jp, oi, pa, pt, sh, lc, rc, dr⟩ := u
  obtain ⟨cn', fp', ck', pf', hr', sp', ix', sc', ye, sz', yj, st', kd', pl', ln, dc', tm', sn, sd, op', ox', oy', oz', sh', ch, oth, lw, hg, le, bk, fm, vy⟩ := v
  obtain ⟨⟨rfl, rfl, rfl, rfl, rfl, rfl, rfl, rfl, rfl, rfl, rfl, rfl, rfl, rfl, rfl, rfl, rfl⟩, ok, hA, ⟨n, hn, rfl, ho, hP⟩, hck, hsz⟩ := I
  rcases hck with rfl | rfl
  · exact br_t rfl (br_t rfl ⟨rfl, I0⟩)
  · have Pg := hP rfl
    refine br_f (by decide) ⟨502, ?_⟩
    have sim := xr_sim 500 0 (nI n, 1, fp', pg, ob, nI 0, nI 0, 1, 0, nI 0, nI 0, st', kd', pl', wd, tm', dg, dc', ss, pc, op', ox', oy', oz', ps, jp, oi, pa, pt, sh', lc, rc, dr) (nI n, fp', 1, nI 0, nI 0, nI 0, 1, nI 0, (-1), 0, 1, st', kd', pl', ln, dc', tm', sn, sd, op', ox', oy', oz', sh', ch, oth, lw, hg, le, bk, fm, vy) (by omega) ⟨⟨rfl, rfl, rfl, rfl, rfl, rfl, rfl, rfl, rfl, rfl, rfl, rfl, rfl, rfl, rfl, rfl, rfl⟩, ⟨rfl, rfl⟩, n, 0, 0, 0, ⟨rfl, rfl, rfl, rfl, rfl, rfl, rfl⟩, hn, by omega, by omega, by omega, by omega, Or.inl rfl, Or.inr rfl, ok, hA, Pg, rn_0, Or.inl (by decide)⟩ (fun r u' => wpY_run (fun r' v' => r' = r ∧ iv_R u' v') (nI n, fp', 1, pf', hr', sp', ix', sc', ye, sz', yj, st', kd', pl', ln, dc', tm', sn, sd, op', ox', oy', oz', sh', ch, oth, lw, hg, le, bk, fm, vy)) (fun r u' v' hI hY => br_f (by decide) (hY _ ⟨rfl, hI⟩))
    unfold xr_W at sim
    exact sim
end
section
/-! hasGoodOperands and fits -/
theorem go_1 {kd : Nat → Int32} {np : Nat} {x y z : Int32} : ft_G kd np 1 x y z ↔ ((x = 16 ∨ ft_i kd x) ∧ ft_i kd y) := by simp [ft_G]
theorem go_10 {kd : Nat → Int32} {np : Nat} {x y z : Int32} : ft_G kd np 10 x y z ↔ (ft_c kd x ∧ ft_c kd y ∧ ∃ q, q ≤ 5 ∧ z = nI q) := by simp [ft_G]
theorem go_12 {kd : Nat → Int32} {np : Nat} {x y z : Int32} : ft_G kd np 12 x y z ↔ ft_c kd x := by simp [ft_G]
theorem go_17 {kd : Nat → Int32} {np : Nat} {x y z : Int32} : ft_G kd np 17 x y z ↔ (∃ a, x = nI a ∧ a < np) := by simp [ft_G]
theorem go_19 {kd : Nat → Int32} {np : Nat} {x y z : Int32} : ft_G kd np 19 x y z ↔ (x = 16 ∨ ft_i kd x) := by simp [ft_G]
theorem go_20 {kd : Nat → Int32} {np : Nat} {x y z : Int32} : ft_G kd np 20 x y z ↔ (x = 16 ∨ ft_s kd x 1) := by simp [ft_G]
theorem go_22 {kd : Nat → Int32} {np : Nat} {x y z : Int32} : ft_G kd np 22 x y z ↔ (ft_i kd x ∧ ft_s kd y 1) := by simp [ft_G]
theorem go_15 {kd : Nat → Int32} {np : Nat} {x y z : Int32} : ft_G kd np 15 x y z ↔ (∃ a b, x = nI a ∧ y = nI b ∧ a ≤ b ∧ b < np) := by simp [ft_G]
theorem go_16 {kd : Nat → Int32} {np : Nat} {x y z : Int32} : ft_G kd np 16 x y z ↔ (∃ a b, x = nI a ∧ y = nI b ∧ a ≤ b ∧ b < np) := by simp [ft_G]
theorem go_2 {kd : Nat → Int32} {np : Nat} {x y z : Int32} : ft_G kd np 2 x y z ↔ ((x = 16 ∨ ft_s kd x 1) ∧ ft_s kd y 1) := by simp [ft_G]
theorem go_3 {kd : Nat → Int32} {np : Nat} {x y z : Int32} : ft_G kd np 3 x y z ↔ ((x = 16 ∨ ft_s kd x 1) ∧ ft_s kd y 1) := by simp [ft_G]
theorem go_4 {kd : Nat → Int32} {np : Nat} {x y z : Int32} : ft_G kd np 4 x y z ↔ ((x = 16 ∨ ft_s kd x 1) ∧ ft_s kd y 1) := by simp [ft_G]
theorem go_5 {kd : Nat → Int32} {np : Nat} {x y z : Int32} : ft_G kd np 5 x y z ↔ ((x = 16 ∨ ft_s kd x 1) ∧ ft_s kd y 1) := by simp [ft_G]
theorem go_6 {kd : Nat → Int32} {np : Nat} {x y z : Int32} : ft_G kd np 6 x y z ↔ ((x = 16 ∨ ft_s kd x 1) ∧ ft_s kd y 1) := by simp [ft_G]
theorem go_7 {kd : Nat → Int32} {np : Nat} {x y z : Int32} : ft_G kd np 7 x y z ↔ ((x = 16 ∨ ft_s kd x 1) ∧ ft_s kd y 1) := by simp [ft_G]
theorem go_8 {kd : Nat → Int32} {np : Nat} {x y z : Int32} : ft_G kd np 8 x y z ↔ ((x = 16 ∨ ft_s kd x 1) ∧ ft_s kd y 1) := by simp [ft_G]
theorem go_9 {kd : Nat → Int32} {np : Nat} {x y z : Int32} : ft_G kd np 9 x y z ↔ ((x = 16 ∨ ft_s kd x 1) ∧ ft_s kd y 1) := by simp [ft_G]
theorem go_0 {kd : Nat → Int32} {np : Nat} {x y z : Int32} : ft_G kd np 0 x y z := by simp [ft_G]
theorem go_11 {kd : Nat → Int32} {np : Nat} {x y z : Int32} : ft_G kd np 11 x y z := by simp [ft_G]
theorem go_13 {kd : Nat → Int32} {np : Nat} {x y z : Int32} : ft_G kd np 13 x y z := by simp [ft_G]
theorem go_14 {kd : Nat → Int32} {np : Nat} {x y z : Int32} : ft_G kd np 14 x y z := by simp [ft_G]
theorem go_18 {kd : Nat → Int32} {np : Nat} {x y z : Int32} : ft_G kd np 18 x y z := by simp [ft_G]
theorem go_21 {kd : Nat → Int32} {np : Nat} {x y z : Int32} : ft_G kd np 21 x y z := by simp [ft_G]
theorem gz_q {z : Int32} : (∃ q, q ≤ 5 ∧ z = nI q) ↔ (¬ z < 0 ∧ ¬ 5 < z) := by
  constructor
  · rintro ⟨q, hq, rfl⟩
    exact ⟨nI_pos (by omega), nI_nlt (a := 5) hq (by decide)⟩
  · rintro ⟨a, b⟩
    obtain ⟨q, hq, rfl⟩ := nI_of a
    exact ⟨q, (nI_leI (b := 5) hq (by decide)).mp (Int32.not_lt.mp b), rfl⟩
theorem gc_iff {kd pl wd tm dg dc ss pc ln sn sd : Nat → Int32} {x : Int32} (hA : it_A kd pl wd tm dg dc ss pc ln sn sd) : ft_c kd x ↔ (ft_i kd x ∧ ¬ ft_s kd x 3) := by
  constructor
  · intro h
    refine ⟨fc_i h, ?_⟩
    rintro ⟨i, hi, rfl, w⟩
    rcases h with ⟨j, hj, e, q⟩ | ⟨j, hj, e, q⟩ <;> rw [nI_eq (by omega) (by omega)] at e <;> subst e <;> rw [w] at q <;> exact absurd q (by decide)
  · rintro ⟨⟨j, hj, rfl, w⟩, h3⟩
    rcases hA j hj with z | ⟨K, A, W, T, D, B, S, L, R⟩
    · exact absurd z w
    · have r1 := R.1.1
      have k1 := R.2.1.1
      have k2 := R.2.1.2.1
      rcases (show K = 1 ∨ K = 2 ∨ K = 3 by omega) with e | e | e <;> subst e
      · exact Or.inl ⟨j, hj, rfl, r1⟩
      · exact Or.inr ⟨j, hj, rfl, r1⟩
      · exact absurd ⟨j, hj, rfl, r1⟩ h3
section
variable {cn ck fp pg ob hr sp ix sz pf sc ye yj : Int32}
variable {st kd pl wd tm dg dc ss pc op ox oy oz ps jp oi pa pt sh lc rc dr ln sn sd ch oth lw hg le bk fm vy : Nat → Int32}
variable {x y z : Int32} {np : Nat}
theorem xf_cmp {post : Int32 → Prop} (h1 : ft_c kd x → post 1) (h0 : ¬ ft_c kd x → post 0) : wpX_isComparable post (cn, ck, fp, pg, ob, hr, sp, ix, sz, pf, sc, st, kd, pl, wd, tm, dg, dc, ss, pc, op, ox, oy, oz, ps, jp, oi, pa, pt, sh, lc, rc, dr) x := by
  unfold wpX_isComparable
  refine xi_sort (fun a => br_f (by decide) (h1 (Or.inl a))) (fun a => br_t rfl (xi_sort (fun b => br_f (by decide) (h1 (Or.inr b))) (fun b => br_t rfl (h0 ?_))))
  rintro (w | w)
  · exact a w
  · exact b w
theorem xf_par {post : Int32 → Prop} (hnp : np < 2 ^ 31) (h1 : (∃ a, x = nI a ∧ a < np) → post 1) (h0 : (¬ ∃ a, x = nI a ∧ a < np) → post 0) : wpX_isParagraph post (cn, ck, fp, nI np, ob, hr, sp, ix, sz, pf, sc, st, kd, pl, wd, tm, dg, dc, ss, pc, op, ox, oy, oz, ps, jp, oi, pa, pt, sh, lc, rc, dr) x := by
  refine br_c (fun a => h0 ?_) (fun a => br_c (fun b => h0 ?_) (fun b => h1 ?_))
  · rintro ⟨k, rfl, hk⟩
    exact nI_pos (by omega) a
  · rintro ⟨k, rfl, hk⟩
    exact nI_ge hk hnp b
  · obtain ⟨k, hk, rfl⟩ := nI_of a
    exact ⟨k, rfl, Nat.lt_of_not_le fun w => b (nI_le w hk)⟩
theorem xf_all {post : Int32 → Prop} {i o : Nat} (hi : i < 48) (ho : o ≤ 22) (hnp : np < 2 ^ 31) (e1 : op i = nI o) (h1 : ft_G kd np o (ox i) (oy i) (oz i) → post 1) (h0 : ¬ ft_G kd np o (ox i) (oy i) (oz i) → post 0) : wpX_hasGoodOperands post (cn, ck, fp, nI np, ob, hr, sp, ix, sz, pf, sc, st, kd, pl, wd, tm, dg, dc, ss, pc, op, ox, oy, oz, ps, jp, oi, pa, pt, sh, lc, rc, dr) (nI i) := by
  have v : vp_in (nI i) 48 := vp_in_nI hi (by decide)
  have ci : (nI i).toNatClampNeg = i := nI_clamp (by omega)
  refine ⟨v, nm_r (by rw [ci, e1]) ⟨v, nm_r (by rw [ci]) ⟨v, nm_r (by rw [ci]) ?_⟩⟩⟩
  rcases (show o = 0 ∨ o = 1 ∨ o = 2 ∨ o = 3 ∨ o = 4 ∨ o = 5 ∨ o = 6 ∨ o = 7 ∨ o = 8 ∨ o = 9 ∨ o = 10 ∨ o = 11 ∨ o = 12 ∨ o = 13 ∨ o = 14 ∨ o = 15 ∨ o = 16 ∨ o = 17 ∨ o = 18 ∨ o = 19 ∨ o = 20 ∨ o = 21 ∨ o = 22 by omega) with e | e | e | e | e | e | e | e | e | e | e | e | e | e | e | e | e | e | e | e | e | e | e <;> subst e
  · exact br_t (by decide) (br_t (by decide) (h1 go_0))
  · rw [go_1] at h1 h0
    have k : (ox i = 16 ∨ ft_i kd (ox i)) → wX_hasGoodOperands_182 post (oy i) cn ck fp (nI np) ob hr sp ix sz pf sc st kd pl wd tm dg dc ss pc op ox oy oz ps jp oi pa pt sh lc rc dr := by
      intro a
      unfold wX_hasGoodOperands_182
      exact xi_item (fun b => br_f (by decide) (h1 ⟨a, b⟩)) (fun b => br_t rfl (h0 (fun w => b w.2)))
    exact br_t (by decide) (br_f (by decide) (br_f (by decide) (br_t rfl (br_c (fun a => k (Or.inl a)) (fun a => xi_item (fun b => br_f (by decide) (k (Or.inr b))) (fun b => br_t rfl (h0 (fun w => w.1.elim a b))))))))
  · rw [go_2] at h1 h0
    have k : (ox i = 16 ∨ ft_s kd (ox i) 1) → wX_hasGoodOperands_48 post (oy i) cn ck fp (nI np) ob hr sp ix sz pf sc st kd pl wd tm dg dc ss pc op ox oy oz ps jp oi pa pt sh lc rc dr := by
      intro a
      unfold wX_hasGoodOperands_48
      exact xi_sort (fun b => br_f (by decide) (h1 ⟨a, b⟩)) (fun b => br_t rfl (h0 (fun w => b w.2)))
    exact br_f (by decide) (br_f (by decide) (br_c (fun a => k (Or.inl a)) (fun a => xi_sort (fun b => br_f (by decide) (k (Or.inr b))) (fun b => br_t rfl (h0 (fun w => w.1.elim a b))))))
  · rw [go_3] at h1 h0
    have k : (ox i = 16 ∨ ft_s kd (ox i) 1) → wX_hasGoodOperands_48 post (oy i) cn ck fp (nI np) ob hr sp ix sz pf sc st kd pl wd tm dg dc ss pc op ox oy oz ps jp oi pa pt sh lc rc dr := by
      intro a
      unfold wX_hasGoodOperands_48
      exact xi_sort (fun b => br_f (by decide) (h1 ⟨a, b⟩)) (fun b => br_t rfl (h0 (fun w => b w.2)))
    exact br_f (by decide) (br_f (by decide) (br_c (fun a => k (Or.inl a)) (fun a => xi_sort (fun b => br_f (by decide) (k (Or.inr b))) (fun b => br_t rfl (h0 (fun w => w.1.elim a b))))))
  · rw [go_4] at h1 h0
    have k : (ox i = 16 ∨ ft_s kd (ox i) 1) → wX_hasGoodOperands_48 post (oy i) cn ck fp (nI np) ob hr sp ix sz pf sc st kd pl wd tm dg dc ss pc op ox oy oz ps jp oi pa pt sh lc rc dr := by
      intro a
      unfold wX_hasGoodOperands_48
      exact xi_sort (fun b => br_f (by decide) (h1 ⟨a, b⟩)) (fun b => br_t rfl (h0 (fun w => b w.2)))
    exact br_f (by decide) (br_f (by decide) (br_c (fun a => k (Or.inl a)) (fun a => xi_sort (fun b => br_f (by decide) (k (Or.inr b))) (fun b => br_t rfl (h0 (fun w => w.1.elim a b))))))
  · rw [go_5] at h1 h0
    have k : (ox i = 16 ∨ ft_s kd (ox i) 1) → wX_hasGoodOperands_48 post (oy i) cn ck fp (nI np) ob hr sp ix sz pf sc st kd pl wd tm dg dc ss pc op ox oy oz ps jp oi pa pt sh lc rc dr := by
      intro a
      unfold wX_hasGoodOperands_48
      exact xi_sort (fun b => br_f (by decide) (h1 ⟨a, b⟩)) (fun b => br_t rfl (h0 (fun w => b w.2)))
    exact br_f (by decide) (br_f (by decide) (br_c (fun a => k (Or.inl a)) (fun a => xi_sort (fun b => br_f (by decide) (k (Or.inr b))) (fun b => br_t rfl (h0 (fun w => w.1.elim a b))))))
  · rw [go_6] at h1 h0
    have k : (ox i = 16 ∨ ft_s kd (ox i) 1) → wX_hasGoodOperands_48 post (oy i) cn ck fp (nI np) ob hr sp ix sz pf sc st kd pl wd tm dg dc ss pc op ox oy oz ps jp oi pa pt sh lc rc dr := by
      intro a
      unfold wX_hasGoodOperands_48
      exact xi_sort (fun b => br_f (by decide) (h1 ⟨a, b⟩)) (fun b => br_t rfl (h0 (fun w => b w.2)))
    exact br_f (by decide) (br_f (by decide) (br_c (fun a => k (Or.inl a)) (fun a => xi_sort (fun b => br_f (by decide) (k (Or.inr b))) (fun b => br_t rfl (h0 (fun w => w.1.elim a b))))))
  · rw [go_7] at h1 h0
    have k : (ox i = 16 ∨ ft_s kd (ox i) 1) → wX_hasGoodOperands_48 post (oy i) cn ck fp (nI np) ob hr sp ix sz pf sc st kd pl wd tm dg dc ss pc op ox oy oz ps jp oi pa pt sh lc rc dr := by
      intro a
      unfold wX_hasGoodOperands_48
      exact xi_sort (fun b => br_f (by decide) (h1 ⟨a, b⟩)) (fun b => br_t rfl (h0 (fun w => b w.2)))
    exact br_f (by decide) (br_f (by decide) (br_c (fun a => k (Or.inl a)) (fun a => xi_sort (fun b => br_f (by decide) (k (Or.inr b))) (fun b => br_t rfl (h0 (fun w => w.1.elim a b))))))
  · rw [go_8] at h1 h0
    have k : (ox i = 16 ∨ ft_s kd (ox i) 1) → wX_hasGoodOperands_48 post (oy i) cn ck fp (nI np) ob hr sp ix sz pf sc st kd pl wd tm dg dc ss pc op ox oy oz ps jp oi pa pt sh lc rc dr := by
      intro a
      unfold wX_hasGoodOperands_48
      exact xi_sort (fun b => br_f (by decide) (h1 ⟨a, b⟩)) (fun b => br_t rfl (h0 (fun w => b w.2)))
    exact br_f (by decide) (br_f (by decide) (br_c (fun a => k (Or.inl a)) (fun a => xi_sort (fun b => br_f (by decide) (k (Or.inr b))) (fun b => br_t rfl (h0 (fun w => w.1.elim a b))))))
  · rw [go_9] at h1 h0
    have k : (ox i = 16 ∨ ft_s kd (ox i) 1) → wX_hasGoodOperands_48 post (oy i) cn ck fp (nI np) ob hr sp ix sz pf sc st kd pl wd tm dg dc ss pc op ox oy oz ps jp oi pa pt sh lc rc dr := by
      intro a
      unfold wX_hasGoodOperands_48
      exact xi_sort (fun b => br_f (by decide) (h1 ⟨a, b⟩)) (fun b => br_t rfl (h0 (fun w => b w.2)))
    exact br_f (by decide) (br_f (by decide) (br_c (fun a => k (Or.inl a)) (fun a => xi_sort (fun b => br_f (by decide) (k (Or.inr b))) (fun b => br_t rfl (h0 (fun w => w.1.elim a b))))))
  · rw [go_10, gz_q] at h1 h0
    have k : ft_c kd (ox i) → ft_c kd (oy i) → (vp_in (nI i) 48 ∧ ((oz (nI i).toNatClampNeg < 0 → post 0) ∧ (¬ oz (nI i).toNatClampNeg < 0 → (vp_in (nI i) 48 ∧ ((5 < oz (nI i).toNatClampNeg → post 0) ∧ (¬ 5 < oz (nI i).toNatClampNeg → post 1)))))) := by
      intro a b
      rw [ci]
      exact ⟨v, br_c (fun c => h0 (fun w => w.2.2.1 c)) (fun c => ⟨v, br_c (fun d => h0 (fun w => w.2.2.2 d)) (fun d => h1 ⟨a, b, c, d⟩)⟩)⟩
    exact br_f (by decide) (br_t (by decide) (br_f (by decide) (br_f (by decide) (br_f (by decide) (br_f (by decide) (br_f (by decide) (br_f (by decide) (br_f (by decide) (br_f (by decide) (br_f (by decide) (br_f (by decide) (br_f (by decide) (br_t rfl (xf_cmp (fun a => br_f (by decide) (xf_cmp (fun b => br_f (by decide) (k a b)) (fun b => br_t rfl (h0 (fun w => b w.2.1))))) (fun a => br_t rfl (h0 (fun w => a w.1)))))))))))))))))
  · exact br_f (by decide) (br_t (by decide) (br_f (by decide) (br_f (by decide) (br_f (by decide) (br_f (by decide) (br_f (by decide) (br_f (by decide) (br_f (by decide) (br_f (by decide) (br_f (by decide) (br_f (by decide) (br_f (by decide) (br_f (by decide) (br_t rfl (h1 go_11)))))))))))))))
  · rw [go_12] at h1 h0
    exact br_f (by decide) (br_t (by decide) (br_f (by decide) (br_f (by decide) (br_f (by decide) (br_f (by decide) (br_f (by decide) (br_f (by decide) (br_f (by decide) (br_f (by decide) (br_f (by decide) (br_f (by decide) (br_f (by decide) (br_f (by decide) (br_f (by decide) (br_t rfl (xf_cmp (fun a => ⟨nb_1, h1 a⟩) (fun a => ⟨nb_0, h0 a⟩)))))))))))))))))
  · exact br_f (by decide) (br_t (by decide) (br_f (by decide) (br_f (by decide) (br_f (by decide) (br_f (by decide) (br_f (by decide) (br_f (by decide) (br_f (by decide) (br_f (by decide) (br_f (by decide) (br_f (by decide) (br_f (by decide) (br_f (by decide) (br_f (by decide) (br_f (by decide) (br_t rfl (h1 go_13)))))))))))))))))
  · exact br_f (by decide) (br_t (by decide) (br_f (by decide) (br_f (by decide) (br_f (by decide) (br_f (by decide) (br_f (by decide) (br_f (by decide) (br_f (by decide) (br_f (by decide) (br_f (by decide) (br_f (by decide) (br_f (by decide) (br_f (by decide) (br_f (by decide) (br_f (by decide) (br_f (by decide) (br_t rfl (h1 go_14))))))))))))))))))
  · rw [go_15] at h1 h0
    have k : wX_hasGoodOperands_245 post (ox i) (oy i) cn ck fp (nI np) ob hr sp ix sz pf sc st kd pl wd tm dg dc ss pc op ox oy oz ps jp oi pa pt sh lc rc dr := by
      unfold wX_hasGoodOperands_245
      refine xf_par hnp (fun a => br_f (by decide) (xf_par hnp (fun b => br_f (by decide) ?_) (fun b => br_t rfl (h0 ?_)))) (fun a => br_t rfl (h0 ?_))
      · obtain ⟨a, ea, ha⟩ := a
        obtain ⟨b, eb, hb⟩ := b
        rw [ea, eb] at h1 h0 ⊢
        refine br_c (fun c => h0 ?_) (fun c => h1 ⟨a, b, rfl, rfl, Nat.le_of_not_lt (fun w => c (nI_lt w (by omega))), hb⟩)
        rintro ⟨a', b', e3, e4, w1, w2⟩
        rw [e3, e4] at c
        exact nI_nlt w1 (by omega) c
      · rintro ⟨a', b', e3, e4, w1, w2⟩
        exact b ⟨b', e4, w2⟩
      · rintro ⟨a', b', e3, e4, w1, w2⟩
        exact a ⟨a', e3, by omega⟩
    exact br_f (by decide) (br_t (by decide) (br_f (by decide) (br_f (by decide) (br_f (by decide) (br_f (by decide) (br_f (by decide) (br_f (by decide) (br_f (by decide) (br_f (by decide) (br_f (by decide) (br_f (by decide) (br_f (by decide) (br_f (by decide) (br_f (by decide) (br_f (by decide) (br_f (by decide) (br_f (by decide) (br_t rfl (k)))))))))))))))))))
  · rw [go_16] at h1 h0
    have k : wX_hasGoodOperands_245 post (ox i) (oy i) cn ck fp (nI np) ob hr sp ix sz pf sc st kd pl wd tm dg dc ss pc op ox oy oz ps jp oi pa pt sh lc rc dr := by
      unfold wX_hasGoodOperands_245
      refine xf_par hnp (fun a => br_f (by decide) (xf_par hnp (fun b => br_f (by decide) ?_) (fun b => br_t rfl (h0 ?_)))) (fun a => br_t rfl (h0 ?_))
      · obtain ⟨a, ea, ha⟩ := a
        obtain ⟨b, eb, hb⟩ := b
        rw [ea, eb] at h1 h0 ⊢
        refine br_c (fun c => h0 ?_) (fun c => h1 ⟨a, b, rfl, rfl, Nat.le_of_not_lt (fun w => c (nI_lt w (by omega))), hb⟩)
        rintro ⟨a', b', e3, e4, w1, w2⟩
        rw [e3, e4] at c
        exact nI_nlt w1 (by omega) c
      · rintro ⟨a', b', e3, e4, w1, w2⟩
        exact b ⟨b', e4, w2⟩
      · rintro ⟨a', b', e3, e4, w1, w2⟩
        exact a ⟨a', e3, by omega⟩
    exact br_f (by decide) (br_t (by decide) (br_f (by decide) (br_f (by decide) (br_f (by decide) (br_f (by decide) (br_f (by decide) (br_f (by decide) (br_f (by decide) (br_f (by decide) (br_f (by decide) (br_f (by decide) (br_f (by decide) (br_f (by decide) (br_f (by decide) (br_f (by decide) (br_f (by decide) (br_f (by decide) (br_f (by decide) (br_t rfl (k))))))))))))))))))))
  · rw [go_17] at h1 h0
    exact br_f (by decide) (br_t (by decide) (br_f (by decide) (br_f (by decide) (br_f (by decide) (br_f (by decide) (br_f (by decide) (br_f (by decide) (br_f (by decide) (br_f (by decide) (br_f (by decide) (br_f (by decide) (br_f (by decide) (br_f (by decide) (br_f (by decide) (br_f (by decide) (br_f (by decide) (br_f (by decide) (br_f (by decide) (br_f (by decide) (br_t rfl (xf_par hnp (fun a => ⟨nb_1, h1 a⟩) (fun a => ⟨nb_0, h0 a⟩))))))))))))))))))))))
  · exact br_f (by decide) (br_t (by decide) (br_f (by decide) (br_f (by decide) (br_f (by decide) (br_f (by decide) (br_f (by decide) (br_f (by decide) (br_f (by decide) (br_f (by decide) (br_f (by decide) (br_f (by decide) (br_f (by decide) (br_f (by decide) (br_f (by decide) (br_f (by decide) (br_f (by decide) (br_f (by decide) (br_f (by decide) (br_f (by decide) (br_f (by decide) (br_t rfl (h1 go_18))))))))))))))))))))))
  · rw [go_19] at h1 h0
    exact br_f (by decide) (br_t (by decide) (br_f (by decide) (br_f (by decide) (br_f (by decide) (br_f (by decide) (br_f (by decide) (br_f (by decide) (br_f (by decide) (br_f (by decide) (br_f (by decide) (br_f (by decide) (br_f (by decide) (br_f (by decide) (br_f (by decide) (br_f (by decide) (br_f (by decide) (br_f (by decide) (br_f (by decide) (br_f (by decide) (br_f (by decide) (br_f (by decide) (br_t rfl (br_c (fun a => h1 (Or.inl a)) (fun a => xi_item (fun b => br_f (by decide) (h1 (Or.inr b))) (fun b => br_t rfl (h0 (fun w => w.elim a b)))))))))))))))))))))))))))
  · rw [go_20] at h1 h0
    exact br_f (by decide) (br_t (by decide) (br_f (by decide) (br_f (by decide) (br_f (by decide) (br_f (by decide) (br_f (by decide) (br_f (by decide) (br_f (by decide) (br_f (by decide) (br_f (by decide) (br_f (by decide) (br_f (by decide) (br_f (by decide) (br_f (by decide) (br_f (by decide) (br_f (by decide) (br_f (by decide) (br_f (by decide) (br_f (by decide) (br_f (by decide) (br_f (by decide) (br_f (by decide) (br_t rfl (br_c (fun a => h1 (Or.inl a)) (fun a => xi_sort (fun b => br_f (by decide) (h1 (Or.inr b))) (fun b => br_t rfl (h0 (fun w => w.elim a b))))))))))))))))))))))))))))
  · exact br_f (by decide) (br_t (by decide) (br_f (by decide) (br_f (by decide) (br_f (by decide) (br_f (by decide) (br_f (by decide) (br_f (by decide) (br_f (by decide) (br_f (by decide) (br_f (by decide) (br_f (by decide) (br_f (by decide) (br_f (by decide) (br_f (by decide) (br_f (by decide) (br_f (by decide) (br_f (by decide) (br_f (by decide) (br_f (by decide) (br_f (by decide) (br_f (by decide) (br_f (by decide) (br_f (by decide) (br_t rfl (h1 go_21)))))))))))))))))))))))))
  · rw [go_22] at h1 h0
    exact br_f (by decide) (br_t (by decide) (br_f (by decide) (br_f (by decide) (br_f (by decide) (br_f (by decide) (br_f (by decide) (br_f (by decide) (br_f (by decide) (br_f (by decide) (br_f (by decide) (br_f (by decide) (br_f (by decide) (br_f (by decide) (br_f (by decide) (br_f (by decide) (br_f (by decide) (br_f (by decide) (br_f (by decide) (br_f (by decide) (br_f (by decide) (br_f (by decide) (br_f (by decide) (br_f (by decide) (br_f (by decide) (br_t rfl (xi_item (fun a => br_f (by decide) (xi_sort (fun b => br_f (by decide) (h1 ⟨a, b⟩)) (fun b => br_t rfl (h0 (fun w => b w.2))))) (fun a => br_t rfl (h0 (fun w => a w.1)))))))))))))))))))))))))))))
theorem yf_all {post : Int32 → Prop} {n i o : Nat} (hA : it_A kd pl wd tm dg dc ss pc ln sn sd) (hn : n ≤ 48) (hi : i < 48) (ho : o ≤ 22) (e1 : op i = nI o) (enp : np = tb_z op n) (h1 : ft_G kd np o (ox i) (oy i) (oz i) → post 1) (h0 : ¬ ft_G kd np o (ox i) (oy i) (oz i) → post 0) : wpY_fits post (nI n, fp, ck, pf, hr, sp, ix, sc, ye, sz, yj, st, kd, pl, ln, dc, tm, sn, sd, op, ox, oy, oz, sh, ch, oth, lw, hg, le, bk, fm, vy) (nI i) := by
  have v : vp_in (nI i) 48 := vp_in_nI hi (by decide)
  have ci : (nI i).toNatClampNeg = i := nI_clamp (by omega)
  have hnp : np < 2 ^ 31 := by have := tb_le op n; omega
  refine ⟨v, nm_r (by rw [ci, e1]) ⟨v, nm_r (by rw [ci]) ⟨v, nm_r (by rw [ci]) ?_⟩⟩⟩
  rcases (show o = 0 ∨ o = 1 ∨ o = 2 ∨ o = 3 ∨ o = 4 ∨ o = 5 ∨ o = 6 ∨ o = 7 ∨ o = 8 ∨ o = 9 ∨ o = 10 ∨ o = 11 ∨ o = 12 ∨ o = 13 ∨ o = 14 ∨ o = 15 ∨ o = 16 ∨ o = 17 ∨ o = 18 ∨ o = 19 ∨ o = 20 ∨ o = 21 ∨ o = 22 by omega) with e | e | e | e | e | e | e | e | e | e | e | e | e | e | e | e | e | e | e | e | e | e | e <;> subst e
  · exact br_f (by decide) (yi_in (fun a b => absurd a (by decide)) (fun _ => br_t rfl (br_f (by decide) (br_f (by decide) (br_f (by decide) (br_f (by decide) (br_f (by decide) (br_f (by decide) (br_f (by decide) (br_f (by decide) (h1 go_0)))))))))))
  · rw [go_1] at h1 h0
    have k : (ox i = 16 ∨ ft_i kd (ox i)) → wY_fits_41 post (oy i) (nI n) fp ck pf hr sp ix sc ye sz yj st kd pl ln dc tm sn sd op ox oy oz sh ch oth lw hg le bk fm vy := by
      intro a
      unfold wY_fits_41
      exact yi_item (fun b => br_f (by decide) (h1 ⟨a, b⟩)) (fun b => br_t rfl (h0 (fun w => b w.2)))
    exact br_t rfl (br_c (fun a => k (Or.inl a)) (fun a => yi_item (fun b => br_f (by decide) (k (Or.inr b))) (fun b => br_t rfl (h0 (fun w => w.1.elim a b)))))
  · rw [go_2] at h1 h0
    have k : (ox i = 16 ∨ ft_s kd (ox i) 1) → wY_fits_81 post (oy i) (nI n) fp ck pf hr sp ix sc ye sz yj st kd pl ln dc tm sn sd op ox oy oz sh ch oth lw hg le bk fm vy := by
      intro a
      unfold wY_fits_81
      exact yi_sort (by decide) (fun b => br_f (by decide) (h1 ⟨a, b⟩)) (fun b => br_t rfl (h0 (fun w => b w.2)))
    exact br_f (by decide) (yi_in (fun _ _ => br_f (by decide) (br_c (fun a => k (Or.inl a)) (fun a => yi_sort (by decide) (fun b => br_f (by decide) (k (Or.inr b))) (fun b => br_t rfl (h0 (fun w => w.1.elim a b)))))) (fun w => absurd ⟨by decide, by decide⟩ w))
  · rw [go_3] at h1 h0
    have k : (ox i = 16 ∨ ft_s kd (ox i) 1) → wY_fits_81 post (oy i) (nI n) fp ck pf hr sp ix sc ye sz yj st kd pl ln dc tm sn sd op ox oy oz sh ch oth lw hg le bk fm vy := by
      intro a
      unfold wY_fits_81
      exact yi_sort (by decide) (fun b => br_f (by decide) (h1 ⟨a, b⟩)) (fun b => br_t rfl (h0 (fun w => b w.2)))
    exact br_f (by decide) (yi_in (fun _ _ => br_f (by decide) (br_c (fun a => k (Or.inl a)) (fun a => yi_sort (by decide) (fun b => br_f (by decide) (k (Or.inr b))) (fun b => br_t rfl (h0 (fun w => w.1.elim a b)))))) (fun w => absurd ⟨by decide, by decide⟩ w))
  · rw [go_4] at h1 h0
    have k : (ox i = 16 ∨ ft_s kd (ox i) 1) → wY_fits_81 post (oy i) (nI n) fp ck pf hr sp ix sc ye sz yj st kd pl ln dc tm sn sd op ox oy oz sh ch oth lw hg le bk fm vy := by
      intro a
      unfold wY_fits_81
      exact yi_sort (by decide) (fun b => br_f (by decide) (h1 ⟨a, b⟩)) (fun b => br_t rfl (h0 (fun w => b w.2)))
    exact br_f (by decide) (yi_in (fun _ _ => br_f (by decide) (br_c (fun a => k (Or.inl a)) (fun a => yi_sort (by decide) (fun b => br_f (by decide) (k (Or.inr b))) (fun b => br_t rfl (h0 (fun w => w.1.elim a b)))))) (fun w => absurd ⟨by decide, by decide⟩ w))
  · rw [go_5] at h1 h0
    have k : (ox i = 16 ∨ ft_s kd (ox i) 1) → wY_fits_81 post (oy i) (nI n) fp ck pf hr sp ix sc ye sz yj st kd pl ln dc tm sn sd op ox oy oz sh ch oth lw hg le bk fm vy := by
      intro a
      unfold wY_fits_81
      exact yi_sort (by decide) (fun b => br_f (by decide) (h1 ⟨a, b⟩)) (fun b => br_t rfl (h0 (fun w => b w.2)))
    exact br_f (by decide) (yi_in (fun _ _ => br_f (by decide) (br_c (fun a => k (Or.inl a)) (fun a => yi_sort (by decide) (fun b => br_f (by decide) (k (Or.inr b))) (fun b => br_t rfl (h0 (fun w => w.1.elim a b)))))) (fun w => absurd ⟨by decide, by decide⟩ w))
  · rw [go_6] at h1 h0
    have k : (ox i = 16 ∨ ft_s kd (ox i) 1) → wY_fits_81 post (oy i) (nI n) fp ck pf hr sp ix sc ye sz yj st kd pl ln dc tm sn sd op ox oy oz sh ch oth lw hg le bk fm vy := by
      intro a
      unfold wY_fits_81
      exact yi_sort (by decide) (fun b => br_f (by decide) (h1 ⟨a, b⟩)) (fun b => br_t rfl (h0 (fun w => b w.2)))
    exact br_f (by decide) (yi_in (fun _ _ => br_f (by decide) (br_c (fun a => k (Or.inl a)) (fun a => yi_sort (by decide) (fun b => br_f (by decide) (k (Or.inr b))) (fun b => br_t rfl (h0 (fun w => w.1.elim a b)))))) (fun w => absurd ⟨by decide, by decide⟩ w))
  · rw [go_7] at h1 h0
    have k : (ox i = 16 ∨ ft_s kd (ox i) 1) → wY_fits_81 post (oy i) (nI n) fp ck pf hr sp ix sc ye sz yj st kd pl ln dc tm sn sd op ox oy oz sh ch oth lw hg le bk fm vy := by
      intro a
      unfold wY_fits_81
      exact yi_sort (by decide) (fun b => br_f (by decide) (h1 ⟨a, b⟩)) (fun b => br_t rfl (h0 (fun w => b w.2)))
    exact br_f (by decide) (yi_in (fun _ _ => br_f (by decide) (br_c (fun a => k (Or.inl a)) (fun a => yi_sort (by decide) (fun b => br_f (by decide) (k (Or.inr b))) (fun b => br_t rfl (h0 (fun w => w.1.elim a b)))))) (fun w => absurd ⟨by decide, by decide⟩ w))
  · rw [go_8] at h1 h0
    have k : (ox i = 16 ∨ ft_s kd (ox i) 1) → wY_fits_81 post (oy i) (nI n) fp ck pf hr sp ix sc ye sz yj st kd pl ln dc tm sn sd op ox oy oz sh ch oth lw hg le bk fm vy := by
      intro a
      unfold wY_fits_81
      exact yi_sort (by decide) (fun b => br_f (by decide) (h1 ⟨a, b⟩)) (fun b => br_t rfl (h0 (fun w => b w.2)))
    exact br_f (by decide) (yi_in (fun _ _ => br_f (by decide) (br_c (fun a => k (Or.inl a)) (fun a => yi_sort (by decide) (fun b => br_f (by decide) (k (Or.inr b))) (fun b => br_t rfl (h0 (fun w => w.1.elim a b)))))) (fun w => absurd ⟨by decide, by decide⟩ w))
  · rw [go_9] at h1 h0
    have k : (ox i = 16 ∨ ft_s kd (ox i) 1) → wY_fits_81 post (oy i) (nI n) fp ck pf hr sp ix sc ye sz yj st kd pl ln dc tm sn sd op ox oy oz sh ch oth lw hg le bk fm vy := by
      intro a
      unfold wY_fits_81
      exact yi_sort (by decide) (fun b => br_f (by decide) (h1 ⟨a, b⟩)) (fun b => br_t rfl (h0 (fun w => b w.2)))
    exact br_f (by decide) (yi_in (fun _ _ => br_f (by decide) (br_c (fun a => k (Or.inl a)) (fun a => yi_sort (by decide) (fun b => br_f (by decide) (k (Or.inr b))) (fun b => br_t rfl (h0 (fun w => w.1.elim a b)))))) (fun w => absurd ⟨by decide, by decide⟩ w))
  · rw [go_10, gz_q, gc_iff hA, gc_iff hA] at h1 h0
    have k : ft_i kd (ox i) → ft_i kd (oy i) → ¬ ft_s kd (ox i) 3 → ¬ ft_s kd (oy i) 3 → (vp_in (nI i) 48 ∧ (wpY_in (fun r_400 => ((r_400 = 0 → post 0) ∧ (¬ r_400 = 0 → post 1))) (oz (nI i).toNatClampNeg) 0 5)) := by
      intro a b c d
      rw [ci]
      refine ⟨v, yi_in (fun p q => br_f (by decide) (h1 ⟨⟨a, c⟩, ⟨b, d⟩, Int32.not_lt.mpr p, Int32.not_lt.mpr q⟩)) (fun w => br_t rfl (h0 (fun u => w ⟨Int32.not_lt.mp u.2.2.1, Int32.not_lt.mp u.2.2.2⟩)))⟩
    exact br_f (by decide) (yi_in (fun a b => absurd b (by decide)) (fun _ => br_t rfl (br_t rfl (yi_item (fun a => br_f (by decide) (yi_item (fun b => br_f (by decide) (yi_sort (by decide) (fun c => br_f (by decide) (h0 (fun w => w.1.2 c))) (fun c => br_t rfl (yi_sort (by decide) (fun d => br_f (by decide) (h0 (fun w => w.2.1.2 d))) (fun d => br_t rfl (k a b c d)))))) (fun b => br_t rfl (h0 (fun w => b w.2.1.1))))) (fun a => br_t rfl (h0 (fun w => a w.1.1)))))))
  · exact br_f (by decide) (yi_in (fun a b => absurd b (by decide)) (fun _ => br_t rfl (br_f (by decide) (br_f (by decide) (br_f (by decide) (br_f (by decide) (br_f (by decide) (br_f (by decide) (br_f (by decide) (br_f (by decide) (h1 go_11)))))))))))
  · rw [go_12] at h1 h0
    exact br_f (by decide) (yi_in (fun a b => absurd b (by decide)) (fun _ => br_t rfl (br_f (by decide) (br_t rfl (yi_sort (by decide) (fun a => br_f (by decide) (h1 (Or.inl a))) (fun a => br_t rfl (yi_sort (by decide) (fun b => br_f (by decide) (h1 (Or.inr b))) (fun b => br_t rfl (h0 (fun w => w.elim a b))))))))))
  · exact br_f (by decide) (yi_in (fun a b => absurd b (by decide)) (fun _ => br_t rfl (br_f (by decide) (br_f (by decide) (br_f (by decide) (br_f (by decide) (br_f (by decide) (br_f (by decide) (br_f (by decide) (br_f (by decide) (h1 go_13)))))))))))
  · exact br_f (by decide) (yi_in (fun a b => absurd b (by decide)) (fun _ => br_t rfl (br_f (by decide) (br_f (by decide) (br_f (by decide) (br_f (by decide) (br_f (by decide) (br_f (by decide) (br_f (by decide) (br_f (by decide) (h1 go_14)))))))))))
  · rw [go_15] at h1 h0
    have k : wY_fits_201 post (ox i) (oy i) (nI n) fp ck pf hr sp ix sc ye sz yj st kd pl ln dc tm sn sd op ox oy oz sh ch oth lw hg le bk fm vy := by
      refine br_c (fun a => h0 ?_) (fun a => br_c (fun b => h0 ?_) (fun b => yb_cnt hn (br_c (fun c => h0 ?_) (fun c => h1 ?_))))
      · rintro ⟨a', b', e3, e4, w1, w2⟩
        rw [e3] at a
        exact nI_pos (by omega) a
      · rintro ⟨a', b', e3, e4, w1, w2⟩
        rw [e3, e4] at b
        exact nI_nlt w1 (by omega) b
      · rintro ⟨a', b', e3, e4, w1, w2⟩
        rw [e4, ← enp] at c
        exact nI_ge w2 (by omega) c
      · obtain ⟨a', ha', ea⟩ := nI_of a
        have h0' : ¬ oy i < 0 := fun w => b (Int32.lt_of_lt_of_le w (by rw [ea]; exact nI_pos' ha'))
        obtain ⟨b', hb', eb⟩ := nI_of h0'
        rw [ea, eb] at b
        rw [eb, ← enp] at c
        exact ⟨a', b', ea, eb, Nat.le_of_not_lt (fun w => b (nI_lt w ha')), Nat.lt_of_not_le (fun w => c (nI_le w hb'))⟩
    exact br_f (by decide) (yi_in (fun a b => absurd b (by decide)) (fun _ => br_t rfl (br_f (by decide) (br_f (by decide) (br_t rfl (k))))))
  · rw [go_16] at h1 h0
    have k : wY_fits_201 post (ox i) (oy i) (nI n) fp ck pf hr sp ix sc ye sz yj st kd pl ln dc tm sn sd op ox oy oz sh ch oth lw hg le bk fm vy := by
      refine br_c (fun a => h0 ?_) (fun a => br_c (fun b => h0 ?_) (fun b => yb_cnt hn (br_c (fun c => h0 ?_) (fun c => h1 ?_))))
      · rintro ⟨a', b', e3, e4, w1, w2⟩
        rw [e3] at a
        exact nI_pos (by omega) a
      · rintro ⟨a', b', e3, e4, w1, w2⟩
        rw [e3, e4] at b
        exact nI_nlt w1 (by omega) b
      · rintro ⟨a', b', e3, e4, w1, w2⟩
        rw [e4, ← enp] at c
        exact nI_ge w2 (by omega) c
      · obtain ⟨a', ha', ea⟩ := nI_of a
        have h0' : ¬ oy i < 0 := fun w => b (Int32.lt_of_lt_of_le w (by rw [ea]; exact nI_pos' ha'))
        obtain ⟨b', hb', eb⟩ := nI_of h0'
        rw [ea, eb] at b
        rw [eb, ← enp] at c
        exact ⟨a', b', ea, eb, Nat.le_of_not_lt (fun w => b (nI_lt w ha')), Nat.lt_of_not_le (fun w => c (nI_le w hb'))⟩
    exact br_f (by decide) (yi_in (fun a b => absurd b (by decide)) (fun _ => br_t rfl (br_f (by decide) (br_f (by decide) (br_f (by decide) (br_t rfl (k)))))))
  · rw [go_17] at h1 h0
    refine br_f (by decide) (yi_in (fun a b => absurd b (by decide)) (fun _ => br_t rfl (br_f (by decide) (br_f (by decide) (br_f (by decide) (br_f (by decide) (br_t rfl (br_c (fun a => h0 ?_) (fun a => yb_cnt hn (br_c (fun c => h0 ?_) (fun c => h1 ?_)))))))))))
    · rintro ⟨a', e3, w2⟩
      rw [e3] at a
      exact nI_pos (by omega) a
    · rintro ⟨a', e3, w2⟩
      rw [e3, ← enp] at c
      exact nI_ge w2 (by omega) c
    · obtain ⟨a', ha', ea⟩ := nI_of a
      rw [ea, ← enp] at c
      exact ⟨a', ea, Nat.lt_of_not_le (fun w => c (nI_le w ha'))⟩
  · exact br_f (by decide) (yi_in (fun a b => absurd b (by decide)) (fun _ => br_t rfl (br_f (by decide) (br_f (by decide) (br_f (by decide) (br_f (by decide) (br_f (by decide) (br_f (by decide) (br_f (by decide) (br_f (by decide) (h1 go_18)))))))))))
  · rw [go_19] at h1 h0
    exact br_f (by decide) (yi_in (fun a b => absurd b (by decide)) (fun _ => br_t rfl (br_f (by decide) (br_f (by decide) (br_f (by decide) (br_f (by decide) (br_f (by decide) (br_t rfl (br_c (fun a => h1 (Or.inl a)) (fun a => yi_item (fun b => br_f (by decide) (br_t rfl (h1 (Or.inr b)))) (fun b => br_t rfl (h0 (fun w => w.elim a b)))))))))))))
  · rw [go_20] at h1 h0
    refine br_f (by decide) (yi_in (fun a b => absurd b (by decide)) (fun _ => br_t rfl (br_f (by decide) (br_f (by decide) (br_f (by decide) (br_f (by decide) (br_f (by decide) (br_f (by decide) (br_t rfl (br_c (fun a => h1 (Or.inl a)) (fun a => yi_item (fun b => br_f (by decide) (br_f (by decide) ?_)) (fun b => br_t rfl (h0 ?_)))))))))))))
    · obtain ⟨j, hj, ej, hk⟩ := b
      rw [ej] at h1 h0 ⊢
      refine ⟨vp_in_nI hj (by decide), ?_⟩
      rw [nI_clamp (by omega)]
      refine br_c (fun c => h1 (Or.inr ⟨j, hj, rfl, c⟩)) (fun c => h0 ?_)
      rintro (w | ⟨j', hj', e, w⟩)
      · exact nI_16 hj w
      · rw [nI_eq (by omega) (by omega)] at e
        subst e
        exact c w
    · rintro (w | w)
      · exact a w
      · exact b (fs_i (by decide) w)
  · exact br_f (by decide) (yi_in (fun a b => absurd b (by decide)) (fun _ => br_t rfl (br_f (by decide) (br_f (by decide) (br_f (by decide) (br_f (by decide) (br_f (by decide) (br_f (by decide) (br_f (by decide) (br_f (by decide) (h1 go_21)))))))))))
  · rw [go_22] at h1 h0
    exact br_f (by decide) (yi_in (fun a b => absurd b (by decide)) (fun _ => br_t rfl (br_f (by decide) (br_f (by decide) (br_f (by decide) (br_f (by decide) (br_f (by decide) (br_f (by decide) (br_f (by decide) (br_t rfl (yi_item (fun a => br_f (by decide) (yi_sort (by decide) (fun b => br_f (by decide) (h1 ⟨a, b⟩)) (fun b => br_t rfl (h0 (fun w => b w.2))))) (fun a => br_t rfl (h0 (fun w => a w.1))))))))))))))
end
end
section
/-! check: the open IFs against depth and elses -/
theorem bi_1 : ∀ k, k < 32 → bt 1 k = decide (k = 0) := by decide
theorem bi_0 (y : Int32) : (y &&& 1) = 1 ↔ bt y 0 = true := by
  rw [pk_and y 1 (by decide)]
  have hm : y.toBitVec.toNat % 2 ^ 1 < 2 := Nat.mod_lt _ (by decide)
  show nI (y.toBitVec.toNat % 2 ^ 1) = nI 1 ↔ _
  rw [nI_eq (by omega) (by decide)]
  show _ ↔ Nat.testBit y.toBitVec.toNat 0 = true
  rw [Nat.testBit_zero, decide_eq_true_eq]
theorem bi_t (x : Int32) {t : Nat} (ht : t < 32) : ((x >>> (nI t &&& 31)) &&& 1) = 1 ↔ bt x t = true := by
  have h := b_sshr t ht x (i := 0) (by decide)
  rw [Nat.add_zero, if_pos ht] at h
  rw [bi_0, h]
theorem bi_sh {t s : Nat} (ht : t < 32) (hs : s < 32) : bt ((1 : Int32) <<< (nI t &&& 31)) s = decide (s = t) := by
  rw [b_shl t ht 1 hs]
  by_cases h : s = t
  · subst h
    rw [Nat.sub_self, bi_1 0 (by decide), decide_eq_true (Nat.le_refl _), decide_eq_true rfl, decide_eq_true rfl]
    rfl
  · rw [decide_eq_false h]
    by_cases h2 : t ≤ s
    · rw [bi_1 (s - t) (by omega), decide_eq_false (show ¬ s - t = 0 by omega), Bool.and_false]
    · rw [decide_eq_false h2, Bool.false_and]
theorem bi_clr (x : Int32) {t s : Nat} (ht : t < 32) (hs : s < 32) : bt (x &&& (((1 : Int32) <<< (nI t &&& 31)) ^^^ (-1))) s = (bt x s && !decide (s = t)) := by
  rw [b_and, b_xor, b_m1 s hs, bi_sh ht hs, Bool.xor_true]
theorem bi_set (x : Int32) {t s : Nat} (ht : t < 32) (hs : s < 32) : bt (x ||| ((1 : Int32) <<< (nI t &&& 31))) s = (bt x s || decide (s = t)) := by
  rw [b_or, bi_sh ht hs]
def ck_E (op oi : Nat → Int32) (x2 : Int32) (o : Nat) : Prop := ∀ t b, t < o → oi t = nI b → b < 48 → (bt x2 (t + 1) = true ↔ op b = 13)
theorem ck_Ei {op oi : Nat → Int32} {x2 : Int32} {o i : Nat} (ho : o < 8) (hi : i < 48) (h : ck_E op oi x2 o) (h1 : pw_i (op i)) : ck_E op (upd oi o (nI i)) (x2 &&& (((1 : Int32) <<< (nI (o + 1) &&& 31)) ^^^ (-1))) (o + 1) := by
  intro t b ht eb hb
  rw [bi_clr x2 (by omega) (by omega)]
  by_cases e : t = o
  · subst e
    rw [pk_us, nI_eq (by omega) (by omega)] at eb
    subst eb
    rw [decide_eq_true rfl, Bool.not_true, Bool.and_false]
    refine ⟨fun w => absurd w (by decide), fun w => ?_⟩
    rw [w] at h1
    exact absurd h1 (by unfold pw_i; decide)
  · rw [pk_un e] at eb
    rw [decide_eq_false (show ¬ t + 1 = o + 1 by omega), Bool.not_false, Bool.and_true]
    exact h t b (by omega) eb hb
theorem ck_Ee {op oi : Nat → Int32} {x2 : Int32} {o i : Nat} (ho : o < 8) (hi : i < 48) (h : ck_E op oi x2 (o + 1)) (h1 : op i = 13) : ck_E op (upd oi o (nI i)) (x2 ||| ((1 : Int32) <<< (nI (o + 1) &&& 31))) (o + 1) := by
  intro t b ht eb hb
  rw [bi_set x2 (by omega) (by omega)]
  by_cases e : t = o
  · subst e
    rw [pk_us, nI_eq (by omega) (by omega)] at eb
    subst eb
    rw [decide_eq_true rfl, Bool.or_true]
    exact ⟨fun _ => h1, fun _ => rfl⟩
  · rw [pk_un e] at eb
    rw [decide_eq_false (show ¬ t + 1 = o + 1 by omega), Bool.or_false]
    exact h t b (by omega) eb hb
section
variable {cn ck fp pg ob hr sp ix sz pf sc ye yj : Int32}
variable {st kd pl wd tm dg dc ss pc op ox oy oz ps jp oi pa pt sh lc rc dr ln sn sd ch oth lw hg le bk fm vy : Nat → Int32}
variable {n np : Nat} {pf2 hr2 : Int32}
theorem ck_loop (hA : it_A kd pl wd tm dg dc ss pc ln sn sd) (hn : n ≤ 48) (hops : ∀ j, j < n → ∃ o, o ≤ 22 ∧ op j = nI o) (enp : np = tb_z op n) : ∀ (d i o : Nat) (x2 : Int32) (oi jp : Nat → Int32), i + d = n → o ≤ 8 → ck_S op oi o i → ck_J op oi jp o i → ck_E op oi x2 o →
    ∃ (r ob' : Int32) (oi' jp' : Nat → Int32), ((r = -1 ∧ rl_J op jp' n ∧ ∀ k, i ≤ k → k < n → ∃ o, o ≤ 22 ∧ op k = nI o ∧ ft_G kd np o (ox k) (oy k) (oz k)) ∨ (∃ k, k ≤ 48 ∧ r = nI k)) ∧
      (∀ post, post r (nI n, ck, fp, nI np, ob', hr, sp, ix, sz, pf, sc, st, kd, pl, wd, tm, dg, dc, ss, pc, op, ox, oy, oz, ps, jp', oi', pa, pt, sh, lc, rc, dr) → wX_firstFault_29 post (d + 1) (nI i) (nI n) ck fp (nI np) (nI o) hr sp ix sz pf sc st kd pl wd tm dg dc ss pc op ox oy oz ps jp oi pa pt sh lc rc dr) ∧
      (∀ post, post r → wY_firstFault_24 post (nI n) fp ck pf2 hr2 sp ix sc ye sz yj st kd pl ln dc tm sn sd op ox oy oz sh ch oth lw hg le bk fm vy (d + 1) (nI o) x2 (nI i))
  | 0, i, o, x2, oi, jp, hd, ho, hS, hJ, hE => by
    have e1 : i = n := by omega
    subst e1
    by_cases h0 : o = 0
    · subst h0
      exact ⟨-1, nI 0, oi, jp, Or.inl ⟨rfl, ck_end hJ, fun k a b => absurd b (by omega)⟩, fun post hp => br_t (nI_le (Nat.le_refl _) (by omega)) (br_t (by decide) hp), fun post hp => br_t (nI_le (Nat.le_refl _) (by omega)) (br_t (by decide) hp)⟩
    · exact ⟨nI i, nI o, oi, jp, Or.inr ⟨i, hn, rfl⟩, fun post hp => br_t (nI_le (Nat.le_refl _) (by omega)) (br_f (nI_nle (by omega) (by omega)) hp), fun post hp => br_t (nI_le (Nat.le_refl _) (by omega)) (br_f (nI_nle (by omega) (by omega)) hp)⟩
  | d + 1, i, o, x2, oi, jp, hd, ho, hS, hJ, hE => by
    obtain ⟨oo, hoo, eo⟩ := hops i (by omega)
    have hnp : np < 2 ^ 31 := by have := tb_le op n; omega
    have v : vp_in (nI i) 48 := vp_in_nI (by omega) (by decide)
    have ci : (nI i).toNatClampNeg = i := nI_clamp (by omega)
    have eo' : op (nI i).toNatClampNeg = nI oo := by rw [ci, eo]
    have hge : ¬ nI n ≤ nI i := nI_ge (by omega) (by omega)
    by_cases hft : ft_G kd np oo (ox i) (oy i) (oz i)
    · -- both sides from behind the operands
      have XY : ∀ {r ob' : Int32} {oi' jp' : Nat → Int32}, ((r = -1 ∧ rl_J op jp' n ∧ ∀ k, i ≤ k → k < n → ∃ o, o ≤ 22 ∧ op k = nI o ∧ ft_G kd np o (ox k) (oy k) (oz k)) ∨ (∃ k, k ≤ 48 ∧ r = nI k)) →
          (∀ post : Int32 → SX → Prop, post r (nI n, ck, fp, nI np, ob', hr, sp, ix, sz, pf, sc, st, kd, pl, wd, tm, dg, dc, ss, pc, op, ox, oy, oz, ps, jp', oi', pa, pt, sh, lc, rc, dr) → wpX_nests (fun r_74 u => match u with | (cn, ck, fp, pg, ob, hr, sp, ix, sz, pf, sc, st, kd, pl, wd, tm, dg, dc, ss, pc, op, ox, oy, oz, ps, jp, oi, pa, pt, sh, lc, rc, dr) => ((r_74 = 0 → post (nI i) (cn, ck, fp, pg, ob, hr, sp, ix, sz, pf, sc, st, kd, pl, wd, tm, dg, dc, ss, pc, op, ox, oy, oz, ps, jp, oi, pa, pt, sh, lc, rc, dr)) ∧ (¬ r_74 = 0 → ∀ x1 : Int32, x1 = nI i + 1 → wX_firstFault_29 post (d + 1) x1 cn ck fp pg ob hr sp ix sz pf sc st kd pl wd tm dg dc ss pc op ox oy oz ps jp oi pa pt sh lc rc dr))) (nI n, ck, fp, nI np, nI o, hr, sp, ix, sz, pf, sc, st, kd, pl, wd, tm, dg, dc, ss, pc, op, ox, oy, oz, ps, jp, oi, pa, pt, sh, lc, rc, dr) (nI i)) →
          (∀ post : Int32 → Prop, post r → ((nI oo = 0 → ((0 < nI o → post (nI i)) ∧ (¬ 0 < nI o → wY_firstFault_57 post (wY_firstFault_24 post (nI n) fp ck pf2 hr2 sp ix sc ye sz yj st kd pl ln dc tm sn sd op ox oy oz sh ch oth lw hg le bk fm vy (d + 1)) (nI o) x2 (nI i) (nI oo) (nI n) fp ck pf2 hr2 sp ix sc ye sz yj st kd pl ln dc tm sn sd op ox oy oz sh ch oth lw hg le bk fm vy))) ∧ (¬ nI oo = 0 → wY_firstFault_57 post (wY_firstFault_24 post (nI n) fp ck pf2 hr2 sp ix sc ye sz yj st kd pl ln dc tm sn sd op ox oy oz sh ch oth lw hg le bk fm vy (d + 1)) (nI o) x2 (nI i) (nI oo) (nI n) fp ck pf2 hr2 sp ix sc ye sz yj st kd pl ln dc tm sn sd op ox oy oz sh ch oth lw hg le bk fm vy))) →
          ∃ (r ob' : Int32) (oi' jp' : Nat → Int32), ((r = -1 ∧ rl_J op jp' n ∧ ∀ k, i ≤ k → k < n → ∃ o, o ≤ 22 ∧ op k = nI o ∧ ft_G kd np o (ox k) (oy k) (oz k)) ∨ (∃ k, k ≤ 48 ∧ r = nI k)) ∧
            (∀ post, post r (nI n, ck, fp, nI np, ob', hr, sp, ix, sz, pf, sc, st, kd, pl, wd, tm, dg, dc, ss, pc, op, ox, oy, oz, ps, jp', oi', pa, pt, sh, lc, rc, dr) → wX_firstFault_29 post (d + 1 + 1) (nI i) (nI n) ck fp (nI np) (nI o) hr sp ix sz pf sc st kd pl wd tm dg dc ss pc op ox oy oz ps jp oi pa pt sh lc rc dr) ∧
            (∀ post, post r → wY_firstFault_24 post (nI n) fp ck pf2 hr2 sp ix sc ye sz yj st kd pl ln dc tm sn sd op ox oy oz sh ch oth lw hg le bk fm vy (d + 1 + 1) (nI o) x2 (nI i)) := by
        intro r ob' oi' jp' hr1 hX hY
        refine ⟨r, ob', oi', jp', hr1, fun post hp => br_f hge (xf_all (by omega) hoo hnp eo (fun _ => br_f (by decide) (hX post hp)) (fun w => absurd hft w)), fun post hp => br_f hge ⟨v, nm_r eo' (yf_all hA hn (by omega) hoo eo enp (fun _ => br_f (by decide) (hY post hp)) (fun w => absurd hft w))⟩⟩
      have keep : ∀ {r : Int32} {jp' : Nat → Int32}, ((r = -1 ∧ rl_J op jp' n ∧ ∀ k, i + 1 ≤ k → k < n → ∃ o, o ≤ 22 ∧ op k = nI o ∧ ft_G kd np o (ox k) (oy k) (oz k)) ∨ (∃ k, k ≤ 48 ∧ r = nI k)) → ((r = -1 ∧ rl_J op jp' n ∧ ∀ k, i ≤ k → k < n → ∃ o, o ≤ 22 ∧ op k = nI o ∧ ft_G kd np o (ox k) (oy k) (oz k)) ∨ (∃ k, k ≤ 48 ∧ r = nI k)) := by
        rintro r jp' (⟨a, b, c⟩ | z)
        · refine Or.inl ⟨a, b, fun k h1 h2 => ?_⟩
          by_cases e : k = i
          · subst e
            exact ⟨oo, hoo, eo, hft⟩
          · exact c k (by omega) h2
        · exact Or.inr z
      have fault : ∃ k, k ≤ 48 ∧ nI i = nI k := ⟨i, by omega, rfl⟩
      have IH : ∀ (o2 : Nat) (x2' : Int32) (oi2 jp2 : Nat → Int32), o2 ≤ 8 → ck_S op oi2 o2 (i + 1) → ck_J op oi2 jp2 o2 (i + 1) → ck_E op oi2 x2' o2 →
          ∃ (r ob' : Int32) (oi' jp' : Nat → Int32), ((r = -1 ∧ rl_J op jp' n ∧ ∀ k, i + 1 ≤ k → k < n → ∃ o, o ≤ 22 ∧ op k = nI o ∧ ft_G kd np o (ox k) (oy k) (oz k)) ∨ (∃ k, k ≤ 48 ∧ r = nI k)) ∧
            (∀ post, post r (nI n, ck, fp, nI np, ob', hr, sp, ix, sz, pf, sc, st, kd, pl, wd, tm, dg, dc, ss, pc, op, ox, oy, oz, ps, jp', oi', pa, pt, sh, lc, rc, dr) → wX_firstFault_29 post (d + 1) (nI (i + 1)) (nI n) ck fp (nI np) (nI o2) hr sp ix sz pf sc st kd pl wd tm dg dc ss pc op ox oy oz ps jp2 oi2 pa pt sh lc rc dr) ∧
            (∀ post, post r → wY_firstFault_24 post (nI n) fp ck pf2 hr2 sp ix sc ye sz yj st kd pl ln dc tm sn sd op ox oy oz sh ch oth lw hg le bk fm vy (d + 1) (nI o2) x2' (nI (i + 1))) := fun o2 x2' oi2 jp2 a b c e => ck_loop hA hn hops enp d (i + 1) o2 x2' oi2 jp2 (by omega) a b c e
      have ne : ∀ k : Nat, k ≤ 22 → oo ≠ k → ¬ nI oo = nI k := fun k hk h w => h ((nI_eq (by omega) (by omega)).mp w)
      have n1 : nI i + 1 = nI (i + 1) := nI_1 i
      by_cases c0 : oo = 0
      · subst c0
        have hnI : ¬ pw_i (op i) := by rw [eo]; unfold pw_i; decide
        have y57 : ∀ {post : Int32 → Prop} {J : Int32 → Int32 → Int32 → Prop}, J (nI o) x2 (nI i + 1) → wY_firstFault_57 post J (nI o) x2 (nI i) (nI 0) (nI n) fp ck pf2 hr2 sp ix sc ye sz yj st kd pl ln dc tm sn sd op ox oy oz sh ch oth lw hg le bk fm vy := by
          intro post J h
          refine yi_in (fun a b => absurd a (by decide)) (fun _ => br_t rfl (br_f (by decide) (br_f (by decide) (br_f (by decide) ?_))))
          exact yi_in (fun a b => absurd a (by decide)) (fun _ => br_t rfl (br_f (by decide) (br_f (by decide) (nm_e h))))
        by_cases h0 : o = 0
        · subst h0
          obtain ⟨r, ob', oi', jp', hr1, hX, hY⟩ := IH 0 x2 oi jp (by omega) (ck_Sa hS hnI (by rw [eo]; decide) (by rw [eo]; decide)) (ck_Ja hJ hnI (by rw [eo]; decide)) hE
          exact XY (ob' := ob') (oi' := oi') (keep hr1) (fun post hp => ⟨v, nm_r eo' (br_t rfl (br_t rfl (br_f (by decide) (nm_r n1 (hX post hp)))))⟩) (fun post hp => br_t rfl (br_f (by decide) (y57 (by rw [n1]; exact hY post hp))))
        · exact XY (ob' := nI o) (oi' := oi) (jp' := jp) (Or.inr fault) (fun post hp => ⟨v, nm_r eo' (br_t rfl (br_f (nI_ne0 (by omega) (by omega)) (br_t rfl hp)))⟩) (fun post hp => br_t rfl (br_t (nI_lt (a := 0) (by omega) (by omega)) hp))
      · by_cases cI : oo = 10 ∨ oo = 11 ∨ oo = 12
        · have hI : pw_i (op i) := by
            rw [eo]
            rcases cI with e | e | e <;> subst e <;> unfold pw_i <;> decide
          have hin := (pw_iff _).mp hI
          rw [eo] at hin
          have xn : ∀ {post : Int32 → SX → Prop}, wX_nests_42 post (nI i) (nI n) ck fp (nI np) (nI o) hr sp ix sz pf sc st kd pl wd tm dg dc ss pc op ox oy oz ps jp oi pa pt sh lc rc dr → wpX_nests post (nI n, ck, fp, nI np, nI o, hr, sp, ix, sz, pf, sc, st, kd, pl, wd, tm, dg, dc, ss, pc, op, ox, oy, oz, ps, jp, oi, pa, pt, sh, lc, rc, dr) (nI i) := by
            intro post h
            refine ⟨v, nm_r eo' (br_f (ne 0 (by decide) c0) ?_)⟩
            rcases cI with e | e | e <;> subst e
            · exact br_t rfl h
            · exact br_f (by decide) (br_t rfl h)
            · exact br_f (by decide) (br_f (by decide) (br_t rfl h))
          by_cases h8 : o = 8
          · subst h8
            refine XY (ob' := nI 8) (oi' := oi) (jp' := jp) (Or.inr fault) (fun post hp => xn (br_f (by decide) (br_t rfl hp))) (fun post hp => br_f (ne 0 (by decide) c0) ?_)
            exact yi_in (fun _ _ => br_f (by decide) (br_t rfl hp)) (fun w => absurd hin w)
          · obtain ⟨r, ob', oi', jp', hr1, hX, hY⟩ := IH (o + 1) (x2 &&& (((1 : Int32) <<< (nI (o + 1) &&& 31)) ^^^ (-1))) (upd oi o (nI i)) jp (by omega) (ck_Si hS hI) (ck_Ji hJ) (ck_Ei (by omega) (by omega) hE hI)
            refine XY (ob' := ob') (oi' := oi') (keep hr1) (fun post hp => xn (br_t (nI_lt (b := 8) (by omega) (by decide)) ⟨vp_in_nI (by omega) (by decide), ?_⟩)) (fun post hp => br_f (ne 0 (by decide) c0) ?_)
            · rw [nI_clamp (show o < 2 ^ 31 by omega)]
              exact nm_e (nm_r (nI_1 o) (br_f (by decide) (nm_r n1 (hX post hp))))
            · have c13 : oo ≠ 13 := by omega
              have c14 : oo ≠ 14 := by omega
              refine yi_in (fun _ _ => br_f (by decide) (br_f (fun w => h8 ((nI_eq (b := 8) (by omega) (by decide)).mp w)) (br_f (ne 13 (by decide) c13) (br_f (ne 14 (by decide) c14) (br_f (ne 13 (by decide) c13) ?_))))) (fun w => absurd hin w)
              refine yi_in (fun _ _ => br_f (by decide) (nm_r (nI_1 o) (nm_e (br_f (ne 13 (by decide) c13) (br_f (ne 14 (by decide) c14) (nm_r n1 (hY post hp))))))) (fun w => absurd hin w)
        · have hnI : ¬ pw_i (nI oo) := by
            rintro (w | w | w)
            · exact cI (Or.inl ((nI_eq (b := 10) (by omega) (by decide)).mp w))
            · exact cI (Or.inr (Or.inl ((nI_eq (b := 11) (by omega) (by decide)).mp w)))
            · exact cI (Or.inr (Or.inr ((nI_eq (b := 12) (by omega) (by decide)).mp w)))
          have hnI' : ¬ pw_i (op i) := by rw [eo]; exact hnI
          have hin : ¬ (10 ≤ nI oo ∧ nI oo ≤ 12) := fun w => hnI ((pw_iff _).mpr w)
          have x0 := ne 0 (by decide) c0
          have x10 := ne 10 (by decide) (fun w => cI (Or.inl w))
          have x11 := ne 11 (by decide) (fun w => cI (Or.inr (Or.inl w)))
          have x12 := ne 12 (by decide) (fun w => cI (Or.inr (Or.inr w)))
          have y57 : ∀ {post : Int32 → Prop} {J : Int32 → Int32 → Int32 → Prop}, wY_firstFault_75 post J (nI o) x2 (nI i) (nI oo) (nI n) fp ck pf2 hr2 sp ix sc ye sz yj st kd pl ln dc tm sn sd op ox oy oz sh ch oth lw hg le bk fm vy → wY_firstFault_57 post J (nI o) x2 (nI i) (nI oo) (nI n) fp ck pf2 hr2 sp ix sc ye sz yj st kd pl ln dc tm sn sd op ox oy oz sh ch oth lw hg le bk fm vy := fun h => yi_in (fun a b => absurd ⟨a, b⟩ hin) (fun _ => br_t rfl h)
          have y111 : ∀ {post : Int32 → Prop} {J : Int32 → Int32 → Int32 → Prop}, wY_firstFault_134 post J (nI o) x2 (nI i) (nI oo) (nI n) fp ck pf2 hr2 sp ix sc ye sz yj st kd pl ln dc tm sn sd op ox oy oz sh ch oth lw hg le bk fm vy → wY_firstFault_111 post J (nI o) x2 (nI i) (nI oo) (nI n) fp ck pf2 hr2 sp ix sc ye sz yj st kd pl ln dc tm sn sd op ox oy oz sh ch oth lw hg le bk fm vy := fun h => yi_in (fun a b => absurd ⟨a, b⟩ hin) (fun _ => br_t rfl h)
          by_cases cE : oo = 13 ∨ oo = 14
          · have xn : ∀ {post : Int32 → SX → Prop}, wX_nests_89 post (nI i) (nI oo) (nI n) ck fp (nI np) (nI o) hr sp ix sz pf sc st kd pl wd tm dg dc ss pc op ox oy oz ps jp oi pa pt sh lc rc dr → wpX_nests post (nI n, ck, fp, nI np, nI o, hr, sp, ix, sz, pf, sc, st, kd, pl, wd, tm, dg, dc, ss, pc, op, ox, oy, oz, ps, jp, oi, pa, pt, sh, lc, rc, dr) (nI i) := by
              intro post h
              refine ⟨v, nm_r eo' (br_f x0 (br_f x10 (br_f x11 (br_f x12 ?_))))⟩
              rcases cE with e | e <;> subst e
              · exact br_t rfl h
              · exact br_f (by decide) (br_t rfl h)
            have y75 : ∀ {post : Int32 → Prop} {J : Int32 → Int32 → Int32 → Prop}, wY_firstFault_89 post J (nI o) x2 (nI i) (nI oo) (nI n) fp ck pf2 hr2 sp ix sc ye sz yj st kd pl ln dc tm sn sd op ox oy oz sh ch oth lw hg le bk fm vy → wY_firstFault_75 post J (nI o) x2 (nI i) (nI oo) (nI n) fp ck pf2 hr2 sp ix sc ye sz yj st kd pl ln dc tm sn sd op ox oy oz sh ch oth lw hg le bk fm vy := by
              intro post J h
              rcases cE with e | e <;> subst e
              · exact br_t rfl h
              · exact br_f (by decide) (br_t rfl h)
            rcases Nat.eq_zero_or_pos o with h0 | h0
            · subst h0
              exact XY (ob' := nI 0) (oi' := oi) (jp' := jp) (Or.inr fault) (fun post hp => xn (br_f (by decide) (br_t rfl hp))) (fun post hp => br_f x0 (y57 (y75 (br_t rfl hp))))
            · obtain ⟨o', rfl⟩ : ∃ o', o = o' + 1 := ⟨o - 1, by omega⟩
              obtain ⟨b, hb, eb, hbo, hbp⟩ := ck_top hS (by rw [eo]; rcases cE with e | e <;> subst e <;> decide)
              have vo : vp_in (nI o') 8 := vp_in_nI (by omega) (by decide)
              have vb : vp_in (nI b) 48 := vp_in_nI (by omega) (by decide)
              have co : (nI o').toNatClampNeg = o' := nI_clamp (by omega)
              have cb : (nI b).toNatClampNeg = b := nI_clamp (by omega)
              have em : nI (o' + 1) - 1 = nI o' := nI_pred o'
              have hbit := hE o' b (by omega) eb (by omega)
              have hle : 1 ≤ nI (o' + 1) := nI_le (a := 1) (by omega) (by omega)
              have hz0 : ¬ nI (o' + 1) = 0 := nI_ne0 (by omega) (by omega)
              have x89 : ∀ {post : Int32 → SX → Prop}, ((nI oo = 13 → (vp_in (nI b) 48 ∧ ((op b = 13 → post 0 (nI n, ck, fp, nI np, nI (o' + 1), hr, sp, ix, sz, pf, sc, st, kd, pl, wd, tm, dg, dc, ss, pc, op, ox, oy, oz, ps, jp, oi, pa, pt, sh, lc, rc, dr)) ∧ (¬ op b = 13 → wX_nests_130 post (nI i) (nI oo) (nI b) (nI n) ck fp (nI np) (nI (o' + 1)) hr sp ix sz pf sc st kd pl wd tm dg dc ss pc op ox oy oz ps jp oi pa pt sh lc rc dr)))) ∧ (¬ nI oo = 13 → wX_nests_130 post (nI i) (nI oo) (nI b) (nI n) ck fp (nI np) (nI (o' + 1)) hr sp ix sz pf sc st kd pl wd tm dg dc ss pc op ox oy oz ps jp oi pa pt sh lc rc dr)) → wX_nests_89 post (nI i) (nI oo) (nI n) ck fp (nI np) (nI (o' + 1)) hr sp ix sz pf sc st kd pl wd tm dg dc ss pc op ox oy oz ps jp oi pa pt sh lc rc dr := by
                intro post h
                refine br_t hle ?_
                rw [em, co]
                refine ⟨vo, nm_r eb ?_⟩
                rw [cb]
                exact h
              rcases cE with e | e
              · subst e
                by_cases h13 : op b = 13
                · exact XY (ob' := nI (o' + 1)) (oi' := oi) (jp' := jp) (Or.inr fault) (fun post hp => xn (x89 (br_t rfl ⟨vb, br_t h13 (br_t rfl hp)⟩))) (fun post hp => br_f x0 (y57 (y75 (br_f hz0 (br_t rfl (br_t ((bi_t x2 (by omega)).mpr (hbit.mpr h13)) hp))))))
                · obtain ⟨r, ob', oi', jp', hr1, hX, hY⟩ := IH (o' + 1) (x2 ||| ((1 : Int32) <<< (nI (o' + 1) &&& 31))) (upd oi o' (nI i)) (upd jp b (nI (i + 1))) ho (ck_Se hS eo) (ck_Je (by omega) hb eb hbp hJ) (ck_Ee (by omega) (by omega) hE eo)
                  refine XY (ob' := ob') (oi' := oi') (keep hr1) (fun post hp => xn (x89 (br_t rfl ⟨vb, br_f h13 ⟨vb, ?_⟩⟩))) (fun post hp => br_f x0 (y57 (y75 (br_f hz0 (br_t rfl (br_f (fun w => h13 (hbit.mp ((bi_t x2 (by omega)).mp w))) (y111 (br_t rfl (nm_e (br_f (by decide) (nm_r n1 (hY post hp))))))))))))
                  rw [cb, n1, em, co]
                  exact nm_e (br_t rfl ⟨vo, nm_e (br_f (by decide) (nm_e (hX post hp)))⟩)
              · subst e
                obtain ⟨r, ob', oi', jp', hr1, hX, hY⟩ := IH o' x2 oi (upd jp b (nI (i + 1))) (by omega) (ck_Sd hS eo) (ck_Jd (by omega) hb eb hbp eo hJ) (fun t b' ht e1 e2 => hE t b' (by omega) e1 e2)
                refine XY (ob' := ob') (oi' := oi') (keep hr1) (fun post hp => xn (x89 (br_f (by decide) ⟨vb, ?_⟩))) (fun post hp => br_f x0 (y57 (y75 (br_f hz0 (br_f (by decide) (y111 (br_f (by decide) (br_t rfl (nm_r (pk_m1 o') (nm_r n1 (hY post hp)))))))))))
                rw [cb, n1]
                exact nm_e (br_f (by decide) (nm_r em (br_f (by decide) (nm_e (hX post hp)))))
          · have x13 := ne 13 (by decide) (fun w => cE (Or.inl w))
            have x14 := ne 14 (by decide) (fun w => cE (Or.inr w))
            obtain ⟨r, ob', oi', jp', hr1, hX, hY⟩ := IH o x2 oi jp ho (ck_Sa hS hnI' (by rw [eo]; exact x13) (by rw [eo]; exact x14)) (ck_Ja hJ hnI' (by rw [eo]; exact x13)) hE
            exact XY (ob' := ob') (oi' := oi') (keep hr1) (fun post hp => ⟨v, nm_r eo' (br_f x0 (br_f x10 (br_f x11 (br_f x12 (br_f x13 (br_f x14 (br_f (by decide) (nm_r n1 (hX post hp)))))))))⟩) (fun post hp => br_f x0 (y57 (br_f x13 (br_f x14 (br_f x13 (y111 (br_f x13 (br_f x14 (nm_r n1 (hY post hp))))))))))
    · exact ⟨nI i, nI o, oi, jp, Or.inr ⟨i, by omega, rfl⟩, fun post hp => br_f hge (xf_all (by omega) hoo hnp eo (fun w => absurd w hft) (fun _ => br_t rfl hp)), fun post hp => br_f hge ⟨v, nm_r eo' (yf_all hA hn (by omega) hoo eo enp (fun w => absurd w hft) (fun _ => br_t rfl hp))⟩⟩
end
end
section
/-! check whole -/
theorem iv_check {u : SX} {v : SY} (I : iv_R u v) : wpX_check (fun r u' => wpY_check (fun r' v' => r' = r ∧ iv_R u' v') v) u := by
  obtain ⟨cn, ck, fp, pg, ob, hr, sp, ix, sz, pf, sc, st, kd, pl, wd, tm, dg, dc, ss, pc, op, ox, oy, oz, ps, jp, oi, pa, pt, sh, lc, rc, dr⟩ := u
  obtain ⟨cn', fp', ck', pf', hr', sp', ix', sc', ye, sz', yj, st', kd', pl', ln, dc', tm', sn, sd, op', ox', oy', oz', sh', ch, oth, lw, hg, le, bk, fm, vy⟩ := v
  obtain ⟨⟨rfl, rfl, rfl, rfl, rfl, rfl, rfl, rfl, rfl, rfl, rfl, rfl, rfl, rfl, rfl, rfl, rfl⟩, ok, hA, ⟨n, hn, rfl, ho, hP⟩, hck, hsz⟩ := I
  have R0 : ∀ ps0 jp0, rl_R (nI n) 0 sz' st' kd' pl' wd tm' dg dc' ss pc ln sn sd op' ox' oy' oz' ps0 jp0 := fun ps0 jp0 => ⟨ok, hA, ⟨n, hn, rfl, ho, fun w => absurd w (by decide)⟩, Or.inl rfl, hsz⟩
  unfold wpX_check
  by_cases h0 : n = 0
  · subst h0
    refine br_t rfl (br_f (by decide) ?_)
    show wpY_check _ _
    unfold wpY_check
    exact br_t rfl (br_t (by decide) ⟨rfl, ⟨rfl, rfl, rfl, rfl, rfl, rfl, rfl, rfl, rfl, rfl, rfl, rfl, rfl, rfl, rfl, rfl, rfl⟩, R0 _ _⟩)
  · have hn0 : ¬ nI n = 0 := nI_ne0 (by omega) (by omega)
    by_cases h1 : op' 0 = 0
    · refine br_f hn0 (br_t h1 (xb_find hn (fun ps' hps => ?_)))
      obtain ⟨r, ob', oi', jp', hr1, hX, hY⟩ := ck_loop (ck := ck') (fp := fp') (hr := hr) (sp := sp') (ix := ix') (sz := sz') (pf := pf) (sc := sc') (ye := ye) (yj := yj) (st := st') (kd := kd') (pl := pl') (wd := wd) (tm := tm') (dg := dg) (dc := dc') (ss := ss) (pc := pc) (op := op') (ox := ox') (oy := oy') (oz := oz') (ps := ps') (pa := pa) (pt := pt) (sh := sh') (lc := lc) (rc := rc) (dr := dr) (ln := ln) (sn := sn) (sd := sd) (ch := ch) (oth := oth) (lw := lw) (hg := hg) (le := le) (bk := bk) (fm := fm) (vy := vy) (pf2 := pf') (hr2 := hr') (np := tb_z op' n) hA hn ho rfl n 0 0 0 oi jp (by omega) (by omega) (ck_S0 _ _) (ck_J0 _ _ _) (fun t b ht => absurd ht (by omega))
      refine ⟨n + 1, hX _ ?_⟩
      rcases hr1 with ⟨e, hj, hf⟩ | ⟨k, hk, e⟩
      · subst e
        refine br_t rfl ?_
        show wpY_check _ _
        unfold wpY_check
        refine br_f hn0 (br_t h1 ⟨n + 1, hY _ (br_f (by decide) ⟨rfl, ⟨rfl, rfl, rfl, rfl, rfl, rfl, rfl, rfl, rfl, rfl, rfl, rfl, rfl, rfl, rfl, rfl, rfl⟩, ok, hA, ⟨n, hn, rfl, ho, fun _ => ?_⟩, Or.inr rfl, hsz⟩)⟩)
        exact ⟨by omega, h1, hps, fun i hi => hf i (by omega) hi, hj⟩
      · subst e
        have hne : ¬ nI k = -1 := by
          intro w
          have : ¬ (-1 : Int32) < 0 := by rw [← w]; exact nI_pos (by omega)
          exact this (by decide)
        refine br_f hne ?_
        show wpY_check _ _
        unfold wpY_check
        exact br_f hn0 (br_t h1 ⟨n + 1, hY _ (br_t (nI_pos' (by omega)) ⟨rfl, ⟨rfl, rfl, rfl, rfl, rfl, rfl, rfl, rfl, rfl, rfl, rfl, rfl, rfl, rfl, rfl, rfl, rfl⟩, R0 _ _⟩)⟩)
    · refine br_f hn0 (br_f h1 (br_f (by decide) ?_))
      show wpY_check _ _
      unfold wpY_check
      exact br_f hn0 (br_f h1 (br_t (by decide) ⟨rfl, ⟨rfl, rfl, rfl, rfl, rfl, rfl, rfl, rfl, rfl, rfl, rfl, rfl, rfl, rfl, rfl, rfl, rfl⟩, R0 _ _⟩))
end
section
/-! number and text -/
theorem gn_in {p : Int32} {lo hi : Nat} (h1 : lo < 2 ^ 31) (h2 : hi < 2 ^ 31) : (∃ D, lo ≤ D ∧ D ≤ hi ∧ p = nI D) ↔ (¬ p < nI lo ∧ ¬ nI hi < p) := by
  constructor
  · rintro ⟨D, a, b, rfl⟩
    exact ⟨nI_nlt a (by omega), nI_nlt b h2⟩
  · rintro ⟨a, b⟩
    have h0 : ¬ p < 0 := fun w => a (Int32.lt_of_lt_of_le w (nI_pos' h1))
    obtain ⟨D, hD, rfl⟩ := nI_of h0
    exact ⟨D, Nat.le_of_not_lt (fun w => a (nI_lt w h1)), Nat.le_of_not_lt (fun w => b (nI_lt w hD)), rfl⟩
/-- an item of w places lies at p1, times over -/
def cl_P (p0 p1 p3 : Int32) (w j a T : Nat) : Prop := p0 = nI j ∧ j < 12 ∧ p1 = nI a ∧ p3 = nI T ∧ 1 ≤ T ∧ T ≤ 9 ∧ a + w * T ≤ 96
theorem cl_b {w T : Nat} (hw : w ≤ 12) (hT : T ≤ 9) : w * T ≤ 108 := Nat.le_trans (Nat.mul_le_mul hw hT) (by decide)
section
variable {cn ck fp pg ob hr sp ix sz pf sc ye yj : Int32}
variable {st kd pl wd tm dg dc ss pc op ox oy oz ps jp oi pa pt sh lc rc dr ln sn sd ch oth lw hg le bk fm vy : Nat → Int32}
variable {p0 p1 p2 p3 p4 p5 : Int32} {w : Nat}
theorem xn_lie {post : Int32 → Prop} (hw : w ≤ 12) (h1 : ∀ j a T, cl_P p0 p1 p3 w j a T → post 1) (h0 : (¬ ∃ j a T, cl_P p0 p1 p3 w j a T) → post 0) : wpX_canLie post (cn, ck, fp, pg, ob, hr, sp, ix, sz, pf, sc, st, kd, pl, wd, tm, dg, dc, ss, pc, op, ox, oy, oz, ps, jp, oi, pa, pt, sh, lc, rc, dr) p0 p1 (nI w) p3 := by
  have no : ∀ {Q : Prop}, (∀ j a T, cl_P p0 p1 p3 w j a T → False) → post 0 := fun h => h0 (fun ⟨j, a, T, z⟩ => h j a T z)
  refine br_c (fun a => ?_) (fun a => br_c (fun b => ?_) (fun b => br_c (fun c => ?_) (fun c => br_c (fun d => br_c (fun e => ?_) (fun e => ?_)) (fun d => ?_))))
  · exact no (Q := True) (by rintro j a' T ⟨rfl, q, -⟩; exact nI_pos (by omega) a)
  · exact no (Q := True) (by rintro j a' T ⟨rfl, q, -⟩; exact nI_ge (b := 12) q (by decide) b)
  · exact no (Q := True) (by rintro j a' T ⟨-, -, -, rfl, q, q2, -⟩; exact nI_nlt (b := 1) q (by omega) c)
  · exact no (Q := True) (by rintro j a' T ⟨-, -, rfl, -, -, -, q⟩; exact nI_pos (by omega) e)
  · obtain ⟨j, hj, rfl⟩ := nI_of a
    have hj12 : j < 12 := Nat.lt_of_not_le (fun z => b (nI_le (a := 12) z hj))
    obtain ⟨T, hT1, hT2, rfl⟩ := (gn_in (lo := 1) (hi := 9) (by decide) (by decide)).mpr ⟨c, Int32.not_lt.mpr d⟩
    obtain ⟨a', ha', rfl⟩ := nI_of e
    have hb := cl_b hw hT2
    rw [pk_mul]
    by_cases h96 : w * T ≤ 96
    · rw [show (96 : Int32) = nI 96 from rfl, pk_sub h96]
      refine br_c (fun g => no (Q := True) ?_) (fun g => h1 j a' T ⟨rfl, hj12, rfl, rfl, hT1, hT2, ?_⟩)
      · rintro j' a2 T' ⟨-, -, e1, e2, -, q9, q⟩
        rw [nI_eq ha' (by omega)] at e1
        rw [nI_eq (by omega) (by omega)] at e2
        subst e1 e2
        exact nI_nlt (by omega) (by omega) g
      · have := Nat.le_of_not_lt (fun z => g (nI_lt z ha'))
        omega
    · refine br_t ?_ (no (Q := True) ?_)
      · refine Int32.lt_of_lt_of_le (pk_sneg (a := 96) (by omega) (by omega)) (nI_pos' ha')
      · rintro j' a2 T' ⟨-, -, e1, e2, -, q9, q⟩
        rw [nI_eq (by omega) (by omega)] at e2
        subst e2
        omega
  · exact no (Q := True) (by rintro j a' T ⟨-, -, -, rfl, q, q2, -⟩; exact d (nI_le (b := 9) q2 (by decide)))
theorem yn_lie {post : Int32 → Prop} (hw : w ≤ 12) (h1 : ∀ j a T, cl_P p0 p1 p3 w j a T → post 1) (h0 : (¬ ∃ j a T, cl_P p0 p1 p3 w j a T) → post 0) : wpY_lies post (cn, fp, ck, pf, hr, sp, ix, sc, ye, sz, yj, st, kd, pl, ln, dc, tm, sn, sd, op, ox, oy, oz, sh, ch, oth, lw, hg, le, bk, fm, vy) p0 p1 (nI w) p3 := by
  have no : ∀ {Q : Prop}, (∀ j a T, cl_P p0 p1 p3 w j a T → False) → post 0 := fun h => h0 (fun ⟨j, a, T, z⟩ => h j a T z)
  unfold wpY_lies
  refine yi_in (fun a b => br_f (by decide) (yi_in (fun c d => br_f (by decide) (br_c (fun e => ?_) (fun e => br_c (fun f => ?_) (fun f => ?_)))) (fun c => br_t rfl ?_))) (fun a => br_t rfl ?_)
  · exact no (Q := True) (by rintro j a' T ⟨-, -, rfl, -, -, -, q⟩; exact nI_pos (by omega) e)
  · exact no (Q := True) (by rintro j a' T ⟨-, -, rfl, -, -, -, q⟩; exact nI_nlt (a := 96) (b := a') (by omega) (by decide) f)
  · obtain ⟨j, -, hj, rfl⟩ := (gn_in (lo := 0) (hi := 11) (by decide) (by decide)).mpr ⟨Int32.not_lt.mpr a, Int32.not_lt.mpr b⟩
    obtain ⟨T, hT1, hT2, rfl⟩ := (gn_in (lo := 1) (hi := 9) (by decide) (by decide)).mpr ⟨Int32.not_lt.mpr c, Int32.not_lt.mpr d⟩
    obtain ⟨a', -, ha', rfl⟩ := (gn_in (p := p1) (lo := 0) (hi := 96) (by decide) (by decide)).mpr ⟨e, f⟩
    have hb := cl_b hw hT2
    rw [pk_mul, nI_add]
    refine br_c (fun g => no (Q := True) ?_) (fun g => h1 j a' T ⟨rfl, by omega, rfl, rfl, hT1, hT2, Nat.le_of_not_lt (fun z => g (nI_lt (a := 96) z (by omega)))⟩)
    rintro j' a2 T' ⟨-, -, e1, e2, -, q9, q⟩
    rw [nI_eq (by omega) (by omega)] at e1
    rw [nI_eq (by omega) (by omega)] at e2
    subst e1 e2
    exact nI_nlt (a := 96) q (by decide) g
  · exact no (Q := True) (by rintro j a' T ⟨-, -, -, rfl, q, q2, -⟩; exact c ⟨nI_le (a := 1) q (by omega), nI_le (b := 9) q2 (by decide)⟩)
  · exact no (Q := True) (by rintro j a' T ⟨rfl, q, -⟩; exact a ⟨nI_pos' (by omega), nI_le (b := 11) (by omega) (by decide)⟩)
theorem xn_lay {post : SX → Prop} {j : Nat} (hj : j < 12) (h : post (cn, 0, fp, pg, ob, hr, sp, ix, sz, pf, sc, st, upd kd j p1, upd pl j p2, upd wd j p3, upd tm j p4, upd dg j 0, upd dc j 0, upd ss j 0, upd pc j 0, op, ox, oy, oz, ps, jp, oi, pa, pt, sh, lc, rc, dr)) : wpX_lay post (cn, ck, fp, pg, ob, hr, sp, ix, sz, pf, sc, st, kd, pl, wd, tm, dg, dc, ss, pc, op, ox, oy, oz, ps, jp, oi, pa, pt, sh, lc, rc, dr) (nI j) p1 p2 p3 p4 := by
  have v : vp_in (nI j) 12 := vp_in_nI hj (by decide)
  refine ⟨v, ?_⟩
  rw [nI_clamp (by omega)]
  exact nm_e ⟨v, nm_e ⟨v, nm_e ⟨v, nm_e ⟨v, nm_e ⟨v, nm_e ⟨v, nm_e ⟨v, nm_e h⟩⟩⟩⟩⟩⟩⟩
theorem yn_make {post : SY → Prop} {j : Nat} (hj : j < 12) (h : post (cn, fp, 0, pf, hr, sp, ix, sc, ye, sz, yj, st, upd kd j p1, upd pl j p2, upd ln j p3, upd dc j p4, upd tm j p5, sn, sd, op, ox, oy, oz, sh, ch, oth, lw, hg, le, bk, fm, vy)) : wpY_make post (cn, fp, ck, pf, hr, sp, ix, sc, ye, sz, yj, st, kd, pl, ln, dc, tm, sn, sd, op, ox, oy, oz, sh, ch, oth, lw, hg, le, bk, fm, vy) (nI j) p1 p2 p3 p4 p5 := by
  have v : vp_in (nI j) 12 := vp_in_nI hj (by decide)
  refine ⟨v, ?_⟩
  rw [nI_clamp (by omega)]
  exact nm_e ⟨v, nm_e ⟨v, nm_e ⟨v, nm_e ⟨v, nm_e h⟩⟩⟩⟩
def gn_N (p0 p1 p2 p3 p5 : Int32) (S j a T D B : Nat) : Prop := cl_P p0 p1 p5 (S + D) j a T ∧ 1 ≤ D ∧ D ≤ 9 ∧ p2 = nI D ∧ B ≤ D ∧ p3 = nI B
theorem xn_num {post : Int32 → SX → Prop} {S : Nat} (hS : S ≤ 1) (h1 : ∀ j a T D B, gn_N p0 p1 p2 p3 p5 S j a T D B → post 1 (cn, 0, fp, pg, ob, hr, sp, ix, sz, pf, sc, st, upd kd j 1, upd pl j (nI a), upd wd j (nI (S + D)), upd tm j (nI T), upd dg j (nI D), upd dc j (nI B), upd ss j (nI S), upd pc j 0, op, ox, oy, oz, ps, jp, oi, pa, pt, sh, lc, rc, dr))
    (h0 : (¬ ∃ j a T D B, gn_N p0 p1 p2 p3 p5 S j a T D B) → post 0 (cn, ck, fp, pg, ob, hr, sp, ix, sz, pf, sc, st, kd, pl, wd, tm, dg, dc, ss, pc, op, ox, oy, oz, ps, jp, oi, pa, pt, sh, lc, rc, dr)) : wpX_number post (cn, ck, fp, pg, ob, hr, sp, ix, sz, pf, sc, st, kd, pl, wd, tm, dg, dc, ss, pc, op, ox, oy, oz, ps, jp, oi, pa, pt, sh, lc, rc, dr) p0 p1 p2 p3 (nI S) p5 := by
  have no : (∀ j a T D B, gn_N p0 p1 p2 p3 p5 S j a T D B → False) → post 0 (cn, ck, fp, pg, ob, hr, sp, ix, sz, pf, sc, st, kd, pl, wd, tm, dg, dc, ss, pc, op, ox, oy, oz, ps, jp, oi, pa, pt, sh, lc, rc, dr) := fun h => h0 (fun ⟨j, a, T, D, B, z⟩ => h j a T D B z)
  refine br_c (fun a => no ?_) (fun a => br_c (fun b => no ?_) (fun b => br_c (fun c => no ?_) (fun c => br_c (fun d => ?_) (fun d => no ?_))))
  · rintro j a' T D B ⟨-, q, q2, rfl, -⟩
    exact nI_nlt (b := 1) q (by omega) a
  · rintro j a' T D B ⟨-, q, q2, rfl, -⟩
    exact nI_nlt (a := 9) q2 (by decide) b
  · rintro j a' T D B ⟨-, q, q2, -, q3, rfl⟩
    exact nI_pos (by omega) c
  · obtain ⟨D, hD1, hD2, rfl⟩ := (gn_in (lo := 1) (hi := 9) (by decide) (by decide)).mpr ⟨a, b⟩
    obtain ⟨B, hB, rfl⟩ := nI_of c
    have hBD := (nI_leI hB (by omega)).mp d
    have k : wX_number_34 post p0 p1 (nI D) (nI B) p5 (nI S) cn ck fp pg ob hr sp ix sz pf sc st kd pl wd tm dg dc ss pc op ox oy oz ps jp oi pa pt sh lc rc dr := by
      refine nm_r (nI_add S D) ?_
      refine xn_lie (w := S + D) (by omega) (fun j a' T C => br_f (by decide) ?_) (fun C => br_t rfl (no ?_))
      · have G : gn_N p0 p1 (nI D) (nI B) p5 S j a' T D B := ⟨C, hD1, hD2, rfl, hBD, rfl⟩
        obtain ⟨rfl, hj, rfl, rfl, hT1, hT2, hl⟩ := C
        have v : vp_in (nI j) 12 := vp_in_nI hj (by decide)
        refine xn_lay hj ⟨v, ?_⟩
        rw [nI_clamp (show j < 2 ^ 31 by omega)]
        refine nm_r pk_uu ⟨v, nm_r pk_uu ⟨v, nm_r pk_uu (h1 j a' T D B G)⟩⟩
      · rintro j a' T D' B' ⟨C', -, q2, e, -⟩
        rw [nI_eq (by omega) (by omega)] at e
        subst e
        exact C ⟨j, a', T, C'⟩
    rcases (show S = 0 ∨ S = 1 by omega) with e | e <;> subst e
    · exact br_t rfl k
    · exact br_f (by decide) k
  · rintro j a' T D B ⟨-, q, q2, rfl, q3, rfl⟩
    exact d (nI_le q3 (by omega))
theorem yn_num {post : Int32 → SY → Prop} {S : Nat} (hS : S ≤ 1) (h1 : ∀ j a T D B, gn_N p0 p1 p2 p3 p5 S j a T D B → post 1 (cn, fp, 0, pf, hr, sp, ix, sc, ye, sz, yj, st, upd kd j 1, upd pl j (nI a), upd ln j (nI D), upd dc j (nI B), upd tm j (nI T), sn, upd sd j (nI S), op, ox, oy, oz, sh, ch, oth, lw, hg, le, bk, fm, vy))
    (h0 : (¬ ∃ j a T D B, gn_N p0 p1 p2 p3 p5 S j a T D B) → post 0 (cn, fp, ck, pf, hr, sp, ix, sc, ye, sz, yj, st, kd, pl, ln, dc, tm, sn, sd, op, ox, oy, oz, sh, ch, oth, lw, hg, le, bk, fm, vy)) : wpY_number post (cn, fp, ck, pf, hr, sp, ix, sc, ye, sz, yj, st, kd, pl, ln, dc, tm, sn, sd, op, ox, oy, oz, sh, ch, oth, lw, hg, le, bk, fm, vy) p0 p1 p2 p3 (nI S) p5 := by
  have no : (∀ j a T D B, gn_N p0 p1 p2 p3 p5 S j a T D B → False) → post 0 (cn, fp, ck, pf, hr, sp, ix, sc, ye, sz, yj, st, kd, pl, ln, dc, tm, sn, sd, op, ox, oy, oz, sh, ch, oth, lw, hg, le, bk, fm, vy) := fun h => h0 (fun ⟨j, a, T, D, B, z⟩ => h j a T D B z)
  unfold wpY_number
  refine yi_in (fun a b => br_f (by decide) ?_) (fun a => br_t rfl (no ?_))
  · obtain ⟨D, hD1, hD2, rfl⟩ := (gn_in (lo := 1) (hi := 9) (by decide) (by decide)).mpr ⟨Int32.not_lt.mpr a, Int32.not_lt.mpr b⟩
    refine yi_in (fun c d => br_f (by decide) ?_) (fun c => br_t rfl (no ?_))
    · obtain ⟨B, hB, rfl⟩ := nI_of (Int32.not_lt.mpr c)
      have hBD := (nI_leI hB (by omega)).mp d
      have k : wY_number_35 post p0 p1 (nI D) (nI B) (nI S) p5 (nI (S + D)) p1 p0 cn fp ck pf hr sp ix sc ye sz yj st kd pl ln dc tm sn sd op ox oy oz sh ch oth lw hg le bk fm vy := by
        unfold wY_number_35
        refine yn_lie (w := S + D) (by omega) (fun j a' T C => br_f (by decide) ?_) (fun C => br_t rfl (no ?_))
        · have G : gn_N p0 p1 (nI D) (nI B) p5 S j a' T D B := ⟨C, hD1, hD2, rfl, hBD, rfl⟩
          obtain ⟨rfl, hj, rfl, rfl, hT1, hT2, hl⟩ := C
          refine yn_make hj ⟨vp_in_nI hj (by decide), ?_⟩
          rw [nI_clamp (show j < 2 ^ 31 by omega)]
          have e : vp_nar .boolean (nI S) = nI S := by
            rcases (show S = 0 ∨ S = 1 by omega) with e | e <;> subst e <;> rfl
          rw [e]
          exact nm_e (h1 j a' T D B G)
        · rintro j a' T D' B' ⟨C', -, q2, e, -⟩
          rw [nI_eq (by omega) (by omega)] at e
          subst e
          exact C ⟨j, a', T, C'⟩
      rcases (show S = 0 ∨ S = 1 by omega) with e | e <;> subst e
      · rw [Nat.zero_add] at k
        exact br_t rfl k
      · rw [Nat.add_comm] at k
        refine br_f (by decide) ?_
        rw [nI_1]
        exact k
    · rintro j a' T D' B ⟨-, q, q2, e, q3, rfl⟩
      rw [nI_eq (by omega) (by omega)] at e
      subst e
      exact c ⟨nI_pos' (by omega), nI_le q3 (by omega)⟩
  · rintro j a' T D B ⟨-, q, q2, rfl, -⟩
    exact a ⟨nI_le (a := 1) q (by omega), nI_le (b := 9) q2 (by decide)⟩
def gn_T (p0 p1 p2 p3 : Int32) (j a T W : Nat) : Prop := cl_P p0 p1 p3 W j a T ∧ 1 ≤ W ∧ W ≤ 12 ∧ p2 = nI W
theorem xn_txt {post : Int32 → SX → Prop} (h1 : ∀ j a T W, gn_T p0 p1 p2 p3 j a T W → post 1 (cn, 0, fp, pg, ob, hr, sp, ix, sz, pf, sc, st, upd kd j 2, upd pl j (nI a), upd wd j (nI W), upd tm j (nI T), upd dg j 0, upd dc j 0, upd ss j 0, upd pc j 0, op, ox, oy, oz, ps, jp, oi, pa, pt, sh, lc, rc, dr))
    (h0 : (¬ ∃ j a T W, gn_T p0 p1 p2 p3 j a T W) → post 0 (cn, ck, fp, pg, ob, hr, sp, ix, sz, pf, sc, st, kd, pl, wd, tm, dg, dc, ss, pc, op, ox, oy, oz, ps, jp, oi, pa, pt, sh, lc, rc, dr)) : wpX_text post (cn, ck, fp, pg, ob, hr, sp, ix, sz, pf, sc, st, kd, pl, wd, tm, dg, dc, ss, pc, op, ox, oy, oz, ps, jp, oi, pa, pt, sh, lc, rc, dr) p0 p1 p2 p3 := by
  have no : (∀ j a T W, gn_T p0 p1 p2 p3 j a T W → False) → post 0 (cn, ck, fp, pg, ob, hr, sp, ix, sz, pf, sc, st, kd, pl, wd, tm, dg, dc, ss, pc, op, ox, oy, oz, ps, jp, oi, pa, pt, sh, lc, rc, dr) := fun h => h0 (fun ⟨j, a, T, W, z⟩ => h j a T W z)
  refine br_c (fun a => no ?_) (fun a => br_c (fun b => no ?_) (fun b => ?_))
  · rintro j a' T W ⟨-, q, q2, rfl⟩
    exact nI_nlt (b := 1) q (by omega) a
  · rintro j a' T W ⟨-, q, q2, rfl⟩
    exact nI_nlt (a := 12) q2 (by decide) b
  · obtain ⟨W, hW1, hW2, rfl⟩ := (gn_in (lo := 1) (hi := 12) (by decide) (by decide)).mpr ⟨a, b⟩
    refine xn_lie hW2 (fun j a' T C => br_f (by decide) ?_) (fun C => br_t rfl (no ?_))
    · have G : gn_T p0 p1 (nI W) p3 j a' T W := ⟨C, hW1, hW2, rfl⟩
      obtain ⟨rfl, hj, rfl, rfl, hT1, hT2, hl⟩ := C
      exact xn_lay hj (h1 j a' T W G)
    · rintro j a' T W' ⟨C', -, q2, e⟩
      rw [nI_eq (by omega) (by omega)] at e
      subst e
      exact C ⟨j, a', T, C'⟩
theorem yn_txt {post : Int32 → SY → Prop} (h1 : ∀ j a T W, gn_T p0 p1 p2 p3 j a T W → post 1 (cn, fp, 0, pf, hr, sp, ix, sc, ye, sz, yj, st, upd kd j 2, upd pl j (nI a), upd ln j (nI W), upd dc j 0, upd tm j (nI T), sn, sd, op, ox, oy, oz, sh, ch, oth, lw, hg, le, bk, fm, vy))
    (h0 : (¬ ∃ j a T W, gn_T p0 p1 p2 p3 j a T W) → post 0 (cn, fp, ck, pf, hr, sp, ix, sc, ye, sz, yj, st, kd, pl, ln, dc, tm, sn, sd, op, ox, oy, oz, sh, ch, oth, lw, hg, le, bk, fm, vy)) : wpY_text post (cn, fp, ck, pf, hr, sp, ix, sc, ye, sz, yj, st, kd, pl, ln, dc, tm, sn, sd, op, ox, oy, oz, sh, ch, oth, lw, hg, le, bk, fm, vy) p0 p1 p2 p3 := by
  have no : (∀ j a T W, gn_T p0 p1 p2 p3 j a T W → False) → post 0 (cn, fp, ck, pf, hr, sp, ix, sc, ye, sz, yj, st, kd, pl, ln, dc, tm, sn, sd, op, ox, oy, oz, sh, ch, oth, lw, hg, le, bk, fm, vy) := fun h => h0 (fun ⟨j, a, T, W, z⟩ => h j a T W z)
  unfold wpY_text
  refine yi_in (fun a b => br_f (by decide) ?_) (fun a => br_t rfl (no ?_))
  · obtain ⟨W, hW1, hW2, rfl⟩ := (gn_in (lo := 1) (hi := 12) (by decide) (by decide)).mpr ⟨Int32.not_lt.mpr a, Int32.not_lt.mpr b⟩
    refine yn_lie hW2 (fun j a' T C => br_f (by decide) ?_) (fun C => br_t rfl (no ?_))
    · have G : gn_T p0 p1 (nI W) p3 j a' T W := ⟨C, hW1, hW2, rfl⟩
      obtain ⟨rfl, hj, rfl, rfl, hT1, hT2, hl⟩ := C
      exact yn_make hj (h1 j a' T W G)
    · rintro j a' T W' ⟨C', -, q2, e⟩
      rw [nI_eq (by omega) (by omega)] at e
      subst e
      exact C ⟨j, a', T, C'⟩
  · rintro j a' T W ⟨-, q, q2, rfl⟩
    exact a ⟨nI_le (a := 1) q (by omega), nI_le (b := 12) q2 (by decide)⟩
end
end
section
/-! the calls that change or show one thing; number and text whole -/
theorem it_set {kd pl wd tm dg dc ss pc ln sn sd kd2 pl2 wd2 tm2 dg2 dc2 ss2 pc2 ln2 sn2 sd2 : Nat → Int32} {j : Nat} (hA : it_A kd pl wd tm dg dc ss pc ln sn sd)
    (hne : ∀ i, i ≠ j → (kd2 i = kd i ∧ pl2 i = pl i ∧ wd2 i = wd i ∧ tm2 i = tm i ∧ dg2 i = dg i ∧ dc2 i = dc i ∧ ss2 i = ss i ∧ pc2 i = pc i ∧ ln2 i = ln i ∧ sd2 i = sd i) ∧ ∀ k, k < 8 → sn2 (8 * i + k) = sn (8 * i + k))
    (hnew : ∃ K A W T D B S L, it_R kd2 pl2 wd2 tm2 dg2 dc2 ss2 pc2 ln2 sn2 sd2 j K A W T D B S L) : it_A kd2 pl2 wd2 tm2 dg2 dc2 ss2 pc2 ln2 sn2 sd2 := by
  intro i hi
  by_cases e : i = j
  · subst e
    exact Or.inr hnew
  · obtain ⟨⟨e1, e2, e3, e4, e5, e6, e7, e8, e9, e10⟩, es⟩ := hne i e
    rcases hA i hi with z | ⟨K, A, W, T, D, B, S, L, R⟩
    · exact Or.inl (e1.trans z)
    · refine Or.inr ⟨K, A, W, T, D, B, S, L, ?_⟩
      unfold it_R at R ⊢
      rw [e1, e2, e3, e4, e5, e6, e7, e8, e9, e10]
      obtain ⟨a, b, c, d, q⟩ := R
      refine ⟨a, b, c, d, fun h3 => ?_⟩
      obtain ⟨q1, q2, q3, q4⟩ := q h3
      exact ⟨q1, q2, q3, fun k hk => by rw [es k (by omega)]; exact q4 k hk⟩
theorem iv_number {u : SX} {v : SY} (I : iv_R u v) (v1 v2 v3 v4 v5 v6 : Int32) : wpX_number (fun r u' => wpY_number (fun r' v' => r' = r ∧ iv_R u' v') v v1 v2 v3 v4 (lw_bz v5) v6) u v1 v2 v3 v4 (lw_bz v5) v6 := by
  have I0 := I
  obtain ⟨cn, ck, fp, pg, ob, hr, sp, ix, sz, pf, sc, st, kd, pl, wd, tm, dg, dc, ss, pc, op, ox, oy, oz, ps, jp, oi, pa, pt, sh, lc, rc, dr⟩ := u
  obtain ⟨cn', fp', ck', pf', hr', sp', ix', sc', ye, sz', yj, st', kd', pl', ln, dc', tm', sn, sd, op', ox', oy', oz', sh', ch, oth, lw, hg, le, bk, fm, vy⟩ := v
  obtain ⟨⟨rfl, rfl, rfl, rfl, rfl, rfl, rfl, rfl, rfl, rfl, rfl, rfl, rfl, rfl, rfl, rfl, rfl⟩, ok, hA, ⟨n, hn, rfl, ho, hP⟩, hck, hsz⟩ := I
  obtain ⟨S, hS, eS⟩ : ∃ S, S ≤ 1 ∧ lw_bz v5 = nI S := by
    rcases lw_bz_01 v5 with e | e
    · exact ⟨0, by omega, e⟩
    · exact ⟨1, by omega, e⟩
  rw [eS]
  have uniq : ∀ {j a T D B j' a' T' D' B' : Nat}, gn_N v1 v2 v3 v4 v6 S j a T D B → gn_N v1 v2 v3 v4 v6 S j' a' T' D' B' → j = j' ∧ a = a' ∧ T = T' ∧ D = D' ∧ B = B' := by
    rintro j a T D B j' a' T' D' B' ⟨⟨rfl, a1, rfl, rfl, a2, a3, a4⟩, a5, a6, rfl, a7, rfl⟩ ⟨⟨b1, b2, b3, b4, b5, b6, b7⟩, b8, b9, b10, b11, b12⟩
    exact ⟨(nI_eq (by omega) (by omega)).mp b1, (nI_eq (by omega) (by omega)).mp b3, (nI_eq (by omega) (by omega)).mp b4, (nI_eq (by omega) (by omega)).mp b10, (nI_eq (by omega) (by omega)).mp b12⟩
  refine xn_num hS (fun j a T D B G => ?_) (fun h => ?_)
  · refine yn_num hS (fun j' a' T' D' B' G' => ?_) (fun h => absurd ⟨j, a, T, D, B, G⟩ h)
    obtain ⟨rfl, rfl, rfl, rfl, rfl⟩ := uniq G G'
    obtain ⟨⟨-, hj, -, -, hT1, hT2, hl⟩, hD1, hD2, -, hB, -⟩ := G
    refine ⟨rfl, ⟨rfl, rfl, rfl, rfl, rfl, rfl, rfl, rfl, rfl, rfl, rfl, rfl, rfl, rfl, rfl, rfl, rfl⟩, ok, it_set hA (j := j) (fun i hi => ⟨⟨pk_un hi, pk_un hi, pk_un hi, pk_un hi, pk_un hi, pk_un hi, pk_un hi, pk_un hi, pk_un hi, pk_un hi⟩, fun _ _ => rfl⟩) ⟨1, a, S + D, T, D, B, S, D, ⟨pk_us, pk_us, pk_us, pk_us, pk_us, pk_us, pk_us, pk_us⟩, ⟨by omega, by omega, hT1, hT2, hD1, by omega, by omega, hl, hS, by omega, by omega⟩, fun _ => ⟨rfl, hD2, hB, pk_us⟩, fun w => absurd rfl w, fun w => absurd w (by decide)⟩, ⟨n, hn, rfl, ho, fun w => absurd w (by decide)⟩, Or.inl rfl, hsz⟩
  · exact yn_num hS (fun j' a' T' D' B' G' => absurd ⟨j', a', T', D', B', G'⟩ h) (fun _ => ⟨rfl, I0⟩)
theorem iv_text {u : SX} {v : SY} (I : iv_R u v) (v1 v2 v3 v4 : Int32) : wpX_text (fun r u' => wpY_text (fun r' v' => r' = r ∧ iv_R u' v') v v1 v2 v3 v4) u v1 v2 v3 v4 := by
  have I0 := I
  obtain ⟨cn, ck, fp, pg, ob, hr, sp, ix, sz, pf, sc, st, kd, pl, wd, tm, dg, dc, ss, pc, op, ox, oy, oz, ps, jp, oi, pa, pt, sh, lc, rc, dr⟩ := u
  obtain ⟨cn', fp', ck', pf', hr', sp', ix', sc', ye, sz', yj, st', kd', pl', ln, dc', tm', sn, sd, op', ox', oy', oz', sh', ch, oth, lw, hg, le, bk, fm, vy⟩ := v
  obtain ⟨⟨rfl, rfl, rfl, rfl, rfl, rfl, rfl, rfl, rfl, rfl, rfl, rfl, rfl, rfl, rfl, rfl, rfl⟩, ok, hA, ⟨n, hn, rfl, ho, hP⟩, hck, hsz⟩ := I
  have uniq : ∀ {j a T W j' a' T' W' : Nat}, gn_T v1 v2 v3 v4 j a T W → gn_T v1 v2 v3 v4 j' a' T' W' → j = j' ∧ a = a' ∧ T = T' ∧ W = W' := by
    rintro j a T W j' a' T' W' ⟨⟨rfl, a1, rfl, rfl, a2, a3, a4⟩, a5, a6, rfl⟩ ⟨⟨b1, b2, b3, b4, b5, b6, b7⟩, b8, b9, b10⟩
    exact ⟨(nI_eq (by omega) (by omega)).mp b1, (nI_eq (by omega) (by omega)).mp b3, (nI_eq (by omega) (by omega)).mp b4, (nI_eq (by omega) (by omega)).mp b10⟩
  refine xn_txt (fun j a T W G => ?_) (fun h => ?_)
  · refine yn_txt (fun j' a' T' W' G' => ?_) (fun h => absurd ⟨j, a, T, W, G⟩ h)
    obtain ⟨rfl, rfl, rfl, rfl⟩ := uniq G G'
    obtain ⟨⟨-, hj, -, -, hT1, hT2, hl⟩, hW1, hW2, -⟩ := G
    refine ⟨rfl, ⟨rfl, rfl, rfl, rfl, rfl, rfl, rfl, rfl, rfl, rfl, rfl, rfl, rfl, rfl, rfl, rfl, rfl⟩, ok, it_set hA (j := j) (fun i hi => ⟨⟨pk_un hi, pk_un hi, pk_un hi, pk_un hi, pk_un hi, pk_un hi, pk_un hi, pk_un hi, pk_un hi, rfl⟩, fun _ _ => rfl⟩) ⟨2, a, W, T, 0, 0, 0, W, ⟨pk_us, pk_us, pk_us, pk_us, pk_us, pk_us, pk_us, pk_us⟩, ⟨by omega, by omega, hT1, hT2, hW1, hW2, by omega, hl, by omega, by omega, by omega⟩, fun w => absurd w (by decide), fun _ => rfl, fun w => absurd w (by decide)⟩, ⟨n, hn, rfl, ho, fun w => absurd w (by decide)⟩, Or.inl rfl, hsz⟩
  · exact yn_txt (fun j' a' T' W' G' => absurd ⟨j', a', T', W', G'⟩ h) (fun _ => ⟨rfl, I0⟩)
theorem iv_poke {u : SX} {v : SY} (I : iv_R u v) (v1 v2 : Int32) : wpX_poke (fun r u' => wpY_poke (fun r' v' => r' = r ∧ iv_R u' v') v v1 v2) u v1 v2 := by
  have I0 := I
  obtain ⟨cn, ck, fp, pg, ob, hr, sp, ix, sz, pf, sc, st, kd, pl, wd, tm, dg, dc, ss, pc, op, ox, oy, oz, ps, jp, oi, pa, pt, sh, lc, rc, dr⟩ := u
  obtain ⟨cn', fp', ck', pf', hr', sp', ix', sc', ye, sz', yj, st', kd', pl', ln, dc', tm', sn, sd, op', ox', oy', oz', sh', ch, oth, lw, hg, le, bk, fm, vy⟩ := v
  obtain ⟨⟨rfl, rfl, rfl, rfl, rfl, rfl, rfl, rfl, rfl, rfl, rfl, rfl, rfl, rfl, rfl, rfl, rfl⟩, ok, hA, ⟨n, hn, rfl, ho, hP⟩, hck, hsz⟩ := I
  refine br_c (fun a => ?_) (fun a => br_c (fun b => ?_) (fun b => br_c (fun c => ?_) (fun c => br_c (fun d => ?_) (fun d => ?_))))
  · show wpY_poke _ _ _ _
    unfold wpY_poke
    exact yi_in (fun p q => absurd p (Int32.not_le.mpr a)) (fun _ => br_t rfl ⟨rfl, I0⟩)
  · show wpY_poke _ _ _ _
    unfold wpY_poke
    exact yi_in (fun p q => absurd (Int32.le_trans b q) (by decide)) (fun _ => br_t rfl ⟨rfl, I0⟩)
  · show wpY_poke _ _ _ _
    unfold wpY_poke
    exact yi_in (fun _ _ => br_f (by decide) (yi_in (fun p q => absurd p (Int32.not_le.mpr c)) (fun _ => br_t rfl ⟨rfl, I0⟩))) (fun _ => br_t rfl ⟨rfl, I0⟩)
  · obtain ⟨k, hk, rfl⟩ := nI_of a
    have hk96 : k < 96 := Nat.lt_of_not_le (fun z => b (nI_le (a := 96) z hk))
    obtain ⟨q, hq, rfl⟩ := nI_of c
    have hq42 : q < 42 := (nI_ltI (b := 42) hq (by decide)).mp d
    have v96 : vp_in (nI k) 96 := vp_in_nI hk96 (by decide)
    refine ⟨v96, ?_⟩
    rw [nI_clamp (show k < 2 ^ 31 by omega)]
    refine nm_e ?_
    show wpY_poke _ _ _ _
    unfold wpY_poke
    refine yi_in (fun _ _ => br_f (by decide) (yi_in (fun _ _ => br_f (by decide) ⟨v96, ?_⟩) (fun w => absurd ⟨nI_pos' (by omega), nI_le (b := 41) (by omega) (by decide)⟩ w))) (fun w => absurd ⟨nI_pos' (by omega), nI_le (b := 95) (by omega) (by decide)⟩ w)
    rw [nI_clamp (show k < 2 ^ 31 by omega)]
    exact nm_e ⟨rfl, ⟨rfl, rfl, rfl, rfl, rfl, rfl, rfl, rfl, rfl, rfl, rfl, rfl, rfl, rfl, rfl, rfl, rfl⟩, ed_ok ok (nI_pos (by omega)), hA, ⟨n, hn, rfl, ho, hP⟩, hck, hsz⟩
  · show wpY_poke _ _ _ _
    unfold wpY_poke
    refine yi_in (fun _ _ => br_f (by decide) (yi_in (fun p q => absurd ?_ d) (fun _ => br_t rfl ⟨rfl, I0⟩))) (fun _ => br_t rfl ⟨rfl, I0⟩)
    exact Int32.lt_of_le_of_lt q (by decide)
theorem iv_add {u : SX} {v : SY} (I : iv_R u v) (v1 v2 v3 v4 : Int32) : wpX_add (fun r u' => wpY_add (fun r' v' => r' = r ∧ iv_R u' v') v v1 v2 v3 v4) u v1 v2 v3 v4 := by
  have I0 := I
  obtain ⟨cn, ck, fp, pg, ob, hr, sp, ix, sz, pf, sc, st, kd, pl, wd, tm, dg, dc, ss, pc, op, ox, oy, oz, ps, jp, oi, pa, pt, sh, lc, rc, dr⟩ := u
  obtain ⟨cn', fp', ck', pf', hr', sp', ix', sc', ye, sz', yj, st', kd', pl', ln, dc', tm', sn, sd, op', ox', oy', oz', sh', ch, oth, lw, hg, le, bk, fm, vy⟩ := v
  obtain ⟨⟨rfl, rfl, rfl, rfl, rfl, rfl, rfl, rfl, rfl, rfl, rfl, rfl, rfl, rfl, rfl, rfl, rfl⟩, ok, hA, ⟨n, hn, rfl, ho, hP⟩, hck, hsz⟩ := I
  refine br_c (fun a => ?_) (fun a => br_c (fun b => ?_) (fun b => ?_))
  · show wpY_add _ _ _ _ _ _
    unfold wpY_add
    exact yi_in (fun p q => absurd p (Int32.not_le.mpr a)) (fun _ => br_t rfl ⟨rfl, I0⟩)
  · show wpY_add _ _ _ _ _ _
    unfold wpY_add
    exact yi_in (fun p q => absurd q (Int32.not_le.mpr b)) (fun _ => br_t rfl ⟨rfl, I0⟩)
  · by_cases h48 : n = 48
    · subst h48
      refine br_f (by decide) ?_
      show wpY_add _ _ _ _ _ _
      unfold wpY_add
      exact yi_in (fun _ _ => br_f (by decide) (br_t rfl ⟨rfl, I0⟩)) (fun w => absurd ⟨Int32.not_lt.mp a, Int32.not_lt.mp b⟩ w)
    · have v48 : vp_in (nI n) 48 := vp_in_nI (by omega) (by decide)
      obtain ⟨o, -, ho22, rfl⟩ := (gn_in (p := v1) (lo := 0) (hi := 22) (by decide) (by decide)).mpr ⟨a, b⟩
      refine br_t (nI_lt (b := 48) (by omega) (by decide)) ⟨v48, ?_⟩
      rw [nI_clamp (show n < 2 ^ 31 by omega)]
      refine nm_e ⟨v48, nm_e ⟨v48, nm_e ⟨v48, nm_e (nm_r (nI_1 n) ?_)⟩⟩⟩
      show wpY_add _ _ _ _ _ _
      unfold wpY_add
      refine yi_in (fun _ _ => br_f (by decide) (br_f (fun w => h48 ((nI_eq (b := 48) (by omega) (by decide)).mp w)) ⟨v48, ?_⟩)) (fun w => absurd ⟨Int32.not_lt.mp a, Int32.not_lt.mp b⟩ w)
      rw [nI_clamp (show n < 2 ^ 31 by omega)]
      refine nm_e ⟨v48, nm_e ⟨v48, nm_e ⟨v48, nm_e (nm_r (nI_1 n) ⟨nI_pred n, ⟨rfl, rfl, rfl, rfl, rfl, rfl, rfl, rfl, rfl, rfl, rfl, rfl, rfl, rfl, rfl, rfl, rfl⟩, ok, hA, ⟨n + 1, by omega, rfl, fun k hk => ?_, fun w => absurd w (by decide)⟩, Or.inl rfl, hsz⟩)⟩⟩⟩
      by_cases e : k = n
      · subst e
        exact ⟨o, ho22, pk_us⟩
      · obtain ⟨o', h1, h2⟩ := ho k (by omega)
        exact ⟨o', h1, (pk_un e).trans h2⟩
theorem iv_drop {u : SX} {v : SY} (I : iv_R u v) : wpX_drop (fun r u' => wpY_drop (fun r' v' => r' = r ∧ iv_R u' v') v) u := by
  obtain ⟨cn, ck, fp, pg, ob, hr, sp, ix, sz, pf, sc, st, kd, pl, wd, tm, dg, dc, ss, pc, op, ox, oy, oz, ps, jp, oi, pa, pt, sh, lc, rc, dr⟩ := u
  obtain ⟨cn', fp', ck', pf', hr', sp', ix', sc', ye, sz', yj, st', kd', pl', ln, dc', tm', sn, sd, op', ox', oy', oz', sh', ch, oth, lw, hg, le, bk, fm, vy⟩ := v
  obtain ⟨⟨rfl, rfl, rfl, rfl, rfl, rfl, rfl, rfl, rfl, rfl, rfl, rfl, rfl, rfl, rfl, rfl, rfl⟩, ok, hA, ⟨n, hn, rfl, ho, hP⟩, hck, hsz⟩ := I
  exact ⟨rfl, ⟨rfl, rfl, rfl, rfl, rfl, rfl, rfl, rfl, rfl, rfl, rfl, rfl, rfl, rfl, rfl, rfl, rfl⟩, ok, hA, ⟨0, by omega, rfl, fun k hk => absurd hk (by omega), fun w => absurd w (by decide)⟩, Or.inl rfl, hsz⟩
theorem iv_place {u : SX} {v : SY} (I : iv_R u v) : wpX_place (fun r => wpY_place (fun r' => r' = r ∧ iv_R u v) v) u := by
  have I0 := I
  obtain ⟨cn, ck, fp, pg, ob, hr, sp, ix, sz, pf, sc, st, kd, pl, wd, tm, dg, dc, ss, pc, op, ox, oy, oz, ps, jp, oi, pa, pt, sh, lc, rc, dr⟩ := u
  obtain ⟨cn', fp', ck', pf', hr', sp', ix', sc', ye, sz', yj, st', kd', pl', ln, dc', tm', sn, sd, op', ox', oy', oz', sh', ch, oth, lw, hg, le, bk, fm, vy⟩ := v
  obtain ⟨⟨rfl, rfl, rfl, rfl, rfl, rfl, rfl, rfl, rfl, rfl, rfl, rfl, rfl, rfl, rfl, rfl, rfl⟩, ok, hA, ⟨n, hn, rfl, ho, hP⟩, hck, hsz⟩ := I
  exact ⟨rfl, I0⟩
theorem iv_steps {u : SX} {v : SY} (I : iv_R u v) : wpX_steps (fun r => wpY_steps (fun r' => r' = r ∧ iv_R u v) v) u := by
  have I0 := I
  obtain ⟨cn, ck, fp, pg, ob, hr, sp, ix, sz, pf, sc, st, kd, pl, wd, tm, dg, dc, ss, pc, op, ox, oy, oz, ps, jp, oi, pa, pt, sh, lc, rc, dr⟩ := u
  obtain ⟨cn', fp', ck', pf', hr', sp', ix', sc', ye, sz', yj, st', kd', pl', ln, dc', tm', sn, sd, op', ox', oy', oz', sh', ch, oth, lw, hg, le, bk, fm, vy⟩ := v
  obtain ⟨⟨rfl, rfl, rfl, rfl, rfl, rfl, rfl, rfl, rfl, rfl, rfl, rfl, rfl, rfl, rfl, rfl, rfl⟩, ok, hA, ⟨n, hn, rfl, ho, hP⟩, hck, hsz⟩ := I
  exact ⟨rfl, I0⟩
theorem iv_index {u : SX} {v : SY} (I : iv_R u v) : wpX_index (fun r => wpY_index (fun r' => r' = r ∧ iv_R u v) v) u := by
  have I0 := I
  obtain ⟨cn, ck, fp, pg, ob, hr, sp, ix, sz, pf, sc, st, kd, pl, wd, tm, dg, dc, ss, pc, op, ox, oy, oz, ps, jp, oi, pa, pt, sh, lc, rc, dr⟩ := u
  obtain ⟨cn', fp', ck', pf', hr', sp', ix', sc', ye, sz', yj, st', kd', pl', ln, dc', tm', sn, sd, op', ox', oy', oz', sh', ch, oth, lw, hg, le, bk, fm, vy⟩ := v
  obtain ⟨⟨rfl, rfl, rfl, rfl, rfl, rfl, rfl, rfl, rfl, rfl, rfl, rfl, rfl, rfl, rfl, rfl, rfl⟩, ok, hA, ⟨n, hn, rfl, ho, hP⟩, hck, hsz⟩ := I
  exact ⟨rfl, I0⟩
theorem iv_displayed {u : SX} {v : SY} (I : iv_R u v) : wpX_displayed (fun r => wpY_displayed (fun r' => r' = r ∧ iv_R u v) v) u := by
  have I0 := I
  obtain ⟨cn, ck, fp, pg, ob, hr, sp, ix, sz, pf, sc, st, kd, pl, wd, tm, dg, dc, ss, pc, op, ox, oy, oz, ps, jp, oi, pa, pt, sh, lc, rc, dr⟩ := u
  obtain ⟨cn', fp', ck', pf', hr', sp', ix', sc', ye, sz', yj, st', kd', pl', ln, dc', tm', sn, sd, op', ox', oy', oz', sh', ch, oth, lw, hg, le, bk, fm, vy⟩ := v
  obtain ⟨⟨rfl, rfl, rfl, rfl, rfl, rfl, rfl, rfl, rfl, rfl, rfl, rfl, rfl, rfl, rfl, rfl, rfl⟩, ok, hA, ⟨n, hn, rfl, ho, hP⟩, hck, hsz⟩ := I
  exact ⟨rfl, I0⟩
theorem iv_size {u : SX} {v : SY} (I : iv_R u v) : wpX_size (fun r => wpY_size (fun r' => r' = r ∧ iv_R u v) v) u := by
  have I0 := I
  obtain ⟨cn, ck, fp, pg, ob, hr, sp, ix, sz, pf, sc, st, kd, pl, wd, tm, dg, dc, ss, pc, op, ox, oy, oz, ps, jp, oi, pa, pt, sh, lc, rc, dr⟩ := u
  obtain ⟨cn', fp', ck', pf', hr', sp', ix', sc', ye, sz', yj, st', kd', pl', ln, dc', tm', sn, sd, op', ox', oy', oz', sh', ch, oth, lw, hg, le, bk, fm, vy⟩ := v
  obtain ⟨⟨rfl, rfl, rfl, rfl, rfl, rfl, rfl, rfl, rfl, rfl, rfl, rfl, rfl, rfl, rfl, rfl, rfl⟩, ok, hA, ⟨n, hn, rfl, ho, hP⟩, hck, hsz⟩ := I
  rcases hsz with rfl | rfl
  · exact ⟨nb_0, nb_0, rfl, I0⟩
  · exact ⟨nb_1, nb_1, rfl, I0⟩
theorem iv_peek {u : SX} {v : SY} (I : iv_R u v) (v1 : Int32) : wpX_peek (fun r => wpY_peek (fun r' => r' = r ∧ iv_R u v) v v1) u v1 := by
  have I0 := I
  obtain ⟨cn, ck, fp, pg, ob, hr, sp, ix, sz, pf, sc, st, kd, pl, wd, tm, dg, dc, ss, pc, op, ox, oy, oz, ps, jp, oi, pa, pt, sh, lc, rc, dr⟩ := u
  obtain ⟨cn', fp', ck', pf', hr', sp', ix', sc', ye, sz', yj, st', kd', pl', ln, dc', tm', sn, sd, op', ox', oy', oz', sh', ch, oth, lw, hg, le, bk, fm, vy⟩ := v
  obtain ⟨⟨rfl, rfl, rfl, rfl, rfl, rfl, rfl, rfl, rfl, rfl, rfl, rfl, rfl, rfl, rfl, rfl, rfl⟩, ok, hA, ⟨n, hn, rfl, ho, hP⟩, hck, hsz⟩ := I
  refine br_c (fun a => ?_) (fun a => br_c (fun b => ?_) (fun b => ?_))
  · show wpY_peek _ _ _
    unfold wpY_peek
    exact yi_in (fun p q => absurd p (Int32.not_le.mpr a)) (fun _ => br_t rfl ⟨rfl, I0⟩)
  · obtain ⟨k, hk, rfl⟩ := nI_of a
    have hk96 : k < 96 := (nI_ltI (b := 96) hk (by decide)).mp b
    have v96 : vp_in (nI k) 96 := vp_in_nI hk96 (by decide)
    refine ⟨v96, ?_⟩
    show wpY_peek _ _ _
    unfold wpY_peek
    exact yi_in (fun _ _ => br_f (by decide) ⟨v96, rfl, I0⟩) (fun w => absurd ⟨nI_pos' (by omega), nI_le (b := 95) (by omega) (by decide)⟩ w)
  · show wpY_peek _ _ _
    unfold wpY_peek
    refine yi_in (fun p q => absurd ?_ b) (fun _ => br_t rfl ⟨rfl, I0⟩)
    exact Int32.lt_of_le_of_lt q (by decide)
end
section
/-! value, output, the constructors -/
theorem iv_value {u : SX} {v : SY} (I : iv_R u v) (v1 v2 : Int32) : wpX_value (fun r => wpY_value (fun r' => r' = r ∧ iv_R u v) v v1 v2) u v1 v2 := by
  have I0 := I
  obtain ⟨cn, ck, fp, pg, ob, hr, sp, ix, sz, pf, sc, st, kd, pl, wd, tm, dg, dc, ss, pc, op, ox, oy, oz, ps, jp, oi, pa, pt, sh, lc, rc, dr⟩ := u
  obtain ⟨cn', fp', ck', pf', hr', sp', ix', sc', ye, sz', yj, st', kd', pl', ln, dc', tm', sn, sd, op', ox', oy', oz', sh', ch, oth, lw, hg, le, bk, fm, vy⟩ := v
  obtain ⟨⟨rfl, rfl, rfl, rfl, rfl, rfl, rfl, rfl, rfl, rfl, rfl, rfl, rfl, rfl, rfl, rfl, rfl⟩, ok, hA, ⟨n, hn, rfl, ho, hP⟩, hck, hsz⟩ := I
  unfold wpX_value
  refine xi_item (fun hi => br_f (by decide) ?_) (fun hi => br_t rfl ?_)
  · have hi0 := hi
    obtain ⟨j, hj, rfl, hk⟩ := hi
    have v12 : vp_in (nI j) 12 := vp_in_nI hj (by decide)
    have cj : (nI j).toNatClampNeg = j := nI_clamp (by omega)
    rcases hA j hj with z | ⟨K, A, W, T, D, B, S, L, R⟩
    · exact absurd z hk
    · have R0 := R
      obtain ⟨⟨r1, r2, r3, r4, r5, r6, r7, r8⟩, ⟨k1, k2, k3, k4, k5, k6, k7, k8, k9, k10, k11⟩, -⟩ := R0
      refine br_c (fun a => ?_) (fun a => ⟨v12, ?_⟩)
      · show wpY_value _ _ _ _
        unfold wpY_value
        exact yi_item (fun _ => br_f (by decide) ⟨v12, yi_in (fun p q => absurd p (Int32.not_le.mpr a)) (fun _ => br_t rfl ⟨rfl, I0⟩)⟩) (fun w => absurd hi0 w)
      · rw [cj, r4, r2, r3]
        refine br_c (fun b => ⟨v12, v12, ?_⟩) (fun b => ?_)
        · obtain ⟨e, he1, he2, rfl⟩ := (gn_in (p := v2) (lo := 1) (hi := T) (by decide) (by omega)).mpr ⟨a, Int32.not_lt.mpr b⟩
          have hF := it_F k8 he1 he2
          obtain ⟨c, rfl⟩ : ∃ c, e = c + 1 := ⟨e - 1, by omega⟩
          rw [nI_pred, pk_mul, nI_add]
          rw [Nat.add_sub_cancel] at hF
          refine xv_value hj R hF ok ?_
          show wpY_value _ _ _ _
          unfold wpY_value
          refine yi_item (fun _ => br_f (by decide) ⟨v12, ?_⟩) (fun w => absurd hi0 w)
          rw [cj, r4]
          exact yi_in (fun _ _ => br_f (by decide) (yv_value hj R he1 he2 ok ⟨rfl, I0⟩)) (fun w => absurd ⟨nI_le (a := 1) he1 (by omega), b⟩ w)
        · show wpY_value _ _ _ _
          unfold wpY_value
          refine yi_item (fun _ => br_f (by decide) ⟨v12, ?_⟩) (fun w => absurd hi0 w)
          rw [cj, r4]
          exact yi_in (fun p q => absurd q b) (fun _ => br_t rfl ⟨rfl, I0⟩)
  · show wpY_value _ _ _ _
    unfold wpY_value
    exact yi_item (fun w => absurd w hi) (fun _ => br_t rfl ⟨rfl, I0⟩)
theorem iv_output {u : SX} {v : SY} (I : iv_R u v) (v1 : Int32) : wpX_output (fun r => wpY_output (fun r' => r' = r ∧ iv_R u v) v v1) u v1 := by
  have I0 := I
  obtain ⟨cn, ck, fp, pg, ob, hr, sp, ix, sz, pf, sc, st, kd, pl, wd, tm, dg, dc, ss, pc, op, ox, oy, oz, ps, jp, oi, pa, pt, sh, lc, rc, dr⟩ := u
  obtain ⟨cn', fp', ck', pf', hr', sp', ix', sc', ye, sz', yj, st', kd', pl', ln, dc', tm', sn, sd, op', ox', oy', oz', sh', ch, oth, lw, hg, le, bk, fm, vy⟩ := v
  obtain ⟨⟨rfl, rfl, rfl, rfl, rfl, rfl, rfl, rfl, rfl, rfl, rfl, rfl, rfl, rfl, rfl, rfl, rfl⟩, ok, hA, ⟨n, hn, rfl, ho, hP⟩, hck, hsz⟩ := I
  refine br_c (fun a => br_t a ⟨rfl, I0⟩) (fun a => br_c (fun b => br_f a (br_c (fun _ => ⟨rfl, I0⟩) (fun _ => br_f (fun w => absurd (Int32.le_trans b w) (by decide)) ⟨rfl, I0⟩))) (fun b => ?_))
  obtain ⟨k, hk, rfl⟩ := nI_of a
  have hk96 : k < 96 := Nat.lt_of_not_le (fun z => b (nI_le (a := 96) z hk))
  have v96 : vp_in (nI k) 96 := vp_in_nI hk96 (by decide)
  exact br_c (fun c => ⟨v96, br_f a (br_f (Int32.not_le.mpr c) (br_t (nI_le (b := 95) (by omega) (by decide)) ⟨v96, rfl, I0⟩))⟩) (fun c => br_f a (br_t (Int32.not_lt.mp c) ⟨rfl, I0⟩))
section
variable {cn ck fp pg ob hr sp ix sz pf sc ye yj : Int32}
variable {st kd pl wd tm dg dc ss pc op ox oy oz ps jp oi pa pt sh lc rc dr ln sn sd ch oth lw hg le bk fm vy : Nat → Int32}
theorem xz_L {post : SX → Prop} (h : post (cn, ck, fp, pg, ob, hr, sp, ix, sz, pf, sc, sg_put st 0 0 96 (fun _ => 10), kd, pl, wd, tm, dg, dc, ss, pc, op, ox, oy, oz, ps, jp, oi, pa, pt, sh, lc, rc, dr)) : ∀ (d i : Nat) (x1 : Int32) (q : Nat → Int32), i + d = 96 → x1 = nI i → q = sg_put st 0 0 i (fun _ => 10) → wX_init_237 post cn ck fp pg ob hr sp ix sz pf sc (d + 1) x1 q kd pl wd tm dg dc ss pc op ox oy oz ps jp oi pa pt sh lc rc dr
  | 0, i, x1, q, hd, h1, hq => by
    subst h1 hq
    have e1 : i = 96 := by omega
    subst e1
    exact br_t (by decide) h
  | d + 1, i, x1, q, hd, h1, hq => by
    subst h1 hq
    refine br_f (nI_ge (b := 96) (by omega) (by decide)) ⟨vp_in_nI (by omega) (by decide), ?_⟩
    rw [nI_clamp (by omega)]
    exact nm_r (sg_up0 st i (fun _ => 10)) (nm_e (xz_L h d (i + 1) _ _ (by omega) (nI_1 i) rfl))
theorem yz_L {post : SY → Prop} (h : post (cn, fp, ck, pf, hr, sp, ix, sc, ye, sz, yj, sg_put st 0 0 96 (fun _ => 10), kd, pl, ln, dc, tm, sn, sd, op, ox, oy, oz, sh, ch, oth, lw, hg, le, bk, fm, vy)) : ∀ (d i : Nat) (x1 : Int32) (q : Nat → Int32), i + d = 96 → x1 = nI i → q = sg_put st 0 0 i (fun _ => 10) → wY_init_184 post cn fp ck pf hr sp ix sc ye sz yj (d + 1) x1 q kd pl ln dc tm sn sd op ox oy oz sh ch oth lw hg le bk fm vy
  | 0, i, x1, q, hd, h1, hq => by
    subst h1 hq
    have e1 : i = 96 := by omega
    subst e1
    exact br_t (by decide) h
  | d + 1, i, x1, q, hd, h1, hq => by
    subst h1 hq
    refine br_f (nI_ge (b := 96) (by omega) (by decide)) ⟨vp_in_nI (by omega) (by decide), ?_⟩
    rw [nI_clamp (by omega)]
    exact nm_r (sg_up0 st i (fun _ => 10)) (nm_e (yz_L h d (i + 1) _ _ (by omega) (nI_1 i) rfl))
end
theorem iv_0 : wpX_init (fun u => wpY_init (fun v => iv_R u v)) := by
  refine ⟨97, xz_L ?_ 96 0 _ _ (by omega) rfl (sg_0 _ _ _ _).symm⟩
  refine ⟨97, yz_L ?_ 96 0 _ _ (by omega) rfl (sg_0 _ _ _ _).symm⟩
  refine ⟨⟨rfl, rfl, rfl, rfl, rfl, rfl, rfl, rfl, rfl, rfl, rfl, rfl, rfl, rfl, rfl, rfl, rfl⟩, st_okp (fun _ => by decide) (fun _ _ _ => by decide), fun j hj => Or.inl rfl, ⟨0, by omega, rfl, fun k hk => absurd hk (by omega), fun w => absurd w (by decide)⟩, Or.inl rfl, Or.inl rfl⟩
end
section
/-! edited: the picture read by both sides -/
theorem ew_ex {m : Nat} (h0 : 0 < m) (h : m < 16777216) : ∃ w, 1 ≤ w ∧ w ≤ 8 ∧ m / 8 ^ w = 0 ∧ ∀ i, i < w → ¬ m / 8 ^ i = 0 := by
  have h8 : m / 8 ^ 8 = 0 := Nat.div_eq_of_lt (by rw [show 8 ^ 8 = 16777216 from by decide]; exact h)
  obtain ⟨w, h1, h2⟩ := pk_least (fun w => m / 8 ^ w = 0) ⟨8, h8⟩
  refine ⟨w, ?_, Nat.le_of_not_lt (fun z => h2 8 z h8), h1, fun i hi => h2 i hi⟩
  rcases Nat.eq_zero_or_pos w with z | z
  · subst z
    rw [Nat.pow_zero, Nat.div_one] at h1
    omega
  · exact z
theorem ew_s {q : Nat} (h : q < 2 ^ 31) : nI q >>> ((3 : Int32) &&& 31) = nI (q / 8) := pk_shrN h _ 3 (by decide)
theorem ew_d {q : Nat} (h : q < 2 ^ 31) : nI q / 8 = nI (q / 8) := pk_div (d := 8) h (by decide) (by decide)
theorem ew_n (m i : Nat) : m / 8 ^ i / 8 = m / 8 ^ (i + 1) := by rw [Nat.div_div_eq_div_mul, ← Nat.pow_succ]
theorem xw_cntL {post : Int32 → Prop} {m w : Nat} (hm : m < 2 ^ 31) (hw8 : w ≤ 8) (hw : m / 8 ^ w = 0) (hi : ∀ i, i < w → ¬ m / 8 ^ i = 0) (h : post (nI w)) : ∀ (d i : Nat) (x1 x2 x3 : Int32), i + d = w → x1 = nI (m / 8 ^ i) → x2 = nI i → x3 = nI i → wX_signCount_6 post (d + 1) x1 x2 x3
  | 0, i, x1, x2, x3, hd, h1, h2, h3 => by
    subst h1 h2 h3
    have e1 : i = w := by omega
    subst e1
    rw [hw]
    exact br_c (fun _ => br_t rfl h) (fun _ => br_t (by decide) (br_t rfl h))
  | d + 1, i, x1, x2, x3, hd, h1, h2, h3 => by
    subst h1 h2 h3
    have hq : m / 8 ^ i ≤ m := Nat.div_le_self _ _
    have hp := hi i (by omega)
    refine br_f (nI_ge (b := 8) (by omega) (by decide)) (br_f ?_ (nm_e (nm_e (nm_e (xw_cntL hm hw8 hw hi h d (i + 1) _ _ _ (by omega) ?_ (nI_1 i) (nI_1 i))))))
    · generalize m / 8 ^ i = q at *
      exact nI_nle (by omega) (by omega)
    · rw [ew_s (by omega), ew_n]
theorem xw_cntB {post : Int32 → Prop} {m : Nat} (hm : m < 2 ^ 31) (hi : ∀ i, i ≤ 8 → ¬ m / 8 ^ i = 0) (h : post 0) : ∀ (d i : Nat) (x1 x2 x3 : Int32), i + d = 8 → x1 = nI (m / 8 ^ i) → x3 = nI i → wX_signCount_6 post (d + 1) x1 x2 x3
  | 0, i, x1, x2, x3, hd, h1, h3 => by
    subst h1 h3
    have e1 : i = 8 := by omega
    subst e1
    have hq : m / 8 ^ 8 ≤ m := Nat.div_le_self _ _
    have hp := hi 8 (by omega)
    refine br_t (by decide) (br_f ?_ h)
    generalize m / 8 ^ 8 = q at *
    exact nI_ne0 (by omega) (by omega)
  | d + 1, i, x1, x2, x3, hd, h1, h3 => by
    subst h1 h3
    have hq : m / 8 ^ i ≤ m := Nat.div_le_self _ _
    have hp := hi i (by omega)
    refine br_f (nI_ge (b := 8) (by omega) (by decide)) (br_f ?_ (nm_e (nm_e (nm_e (xw_cntB hm hi h d (i + 1) _ _ _ (by omega) ?_ (nI_1 i))))))
    · generalize m / 8 ^ i = q at *
      exact nI_nle (by omega) (by omega)
    · rw [ew_s (by omega), ew_n]
def ep_pt (P : Int32) (w : Nat) : Nat → Bool
  | 0 => false
  | i + 1 => ep_pt P w i || decide (pi_s P w i = 5)
def ep_fx (P : Int32) (w : Nat) : Nat → Bool
  | 0 => false
  | i + 1 => ep_fx P w i || decide (pi_s P w i = 1)
def ep_b (P : Int32) (w : Nat) : Nat → Nat
  | 0 => 0
  | i + 1 => ep_b P w i + (if pi_s P w i < 4 ∧ ep_pt P w (i + 1) = true then 1 else 0)
theorem ep_le (P : Int32) (w : Nat) : ∀ i, ep_b P w i ≤ pi_c P w i
  | 0 => Nat.le_refl _
  | i + 1 => by
    have := ep_le P w i
    show ep_b P w i + (if pi_s P w i < 4 ∧ ep_pt P w (i + 1) = true then 1 else 0) ≤ _
    by_cases h : pi_s P w i < 4
    · rw [pi_cs h]
      split <;> omega
    · rw [pi_cn h, if_neg (fun z => h z.1)]
      omega
/-- pictureDigits: g says whether it counts, q how many so far -/
theorem xp_L {post : Int32 → Prop} {P : Int32} {w : Nat} {g : Nat → Bool} {q : Nat → Nat} (hw : w ≤ 8) (hs : ∀ i, i < w → pi_s P w i ≠ 0) (hg : ∀ i, g (i + 1) = (g i || decide (pi_s P w i = 5)))
    (hq1 : ∀ i, pi_s P w i < 4 → g (i + 1) = true → q (i + 1) = q i + 1) (hq0 : ∀ i, ¬ (pi_s P w i < 4 ∧ g (i + 1) = true) → q (i + 1) = q i) (h : post (nI (q w))) : ∀ (d i : Nat) (x3 x4 x5 : Int32), i + d = w → x3 = nI (q i) → x4 = rd_b (g i) → x5 = nI i → wX_pictureDigits_16 post P (nI w) (d + 1) x3 x4 x5
  | 0, i, x3, x4, x5, hd, h3, h4, h5 => by
    subst h3 h4 h5
    have e1 : i = w := by omega
    subst e1
    exact br_t (nI_le (Nat.le_refl _) (by omega)) h
  | d + 1, i, x3, x4, x5, hd, h3, h4, h5 => by
    subst h3 h4 h5
    have IH : ∀ x3' : Int32, x3' = nI (q (i + 1)) → wX_pictureDigits_16 post P (nI w) (d + 1) x3' (rd_b (g (i + 1))) (nI i + 1) := fun x3' e => xp_L hw hs hg hq1 hq0 h d (i + 1) _ _ _ (by omega) e rfl (nI_1 i)
    have k40 : wX_pictureDigits_40 post (wX_pictureDigits_16 post P (nI w) (d + 1)) P (nI w) (nI (q i)) (rd_b (g (i + 1))) (nI i) (pi_s P w i) := by
      cases hg1 : g (i + 1) with
      | false =>
        refine br_t rfl (nm_e ?_)
        have := IH (nI (q i)) (by rw [hq0 i (fun z => absurd (hg1.symm.trans z.2) (by decide))])
        rwa [hg1] at this
      | true =>
        refine br_f (by decide) ?_
        obtain ⟨σ, hσ8, hσ⟩ := pi_v P w i
        have hs0 := hs i (by omega)
        by_cases h4 : pi_s P w i < 4
        · have h1 : ¬ pi_s P w i < 1 := by
            rw [hσ]
            refine nI_nlt (b := 1) ?_ (by omega)
            rcases Nat.eq_zero_or_pos σ with z | z
            · subst z
              exact absurd hσ hs0
            · exact z
          have h3 : ¬ 3 < pi_s P w i := by
            rw [hσ] at h4 ⊢
            exact nI_nlt (a := 3) (by have := (nI_ltI (b := 4) (by omega) (by decide)).mp h4; omega) (by decide)
          have := IH (nI (q i) + 1) (by rw [hq1 i h4 hg1]; exact nI_1 _)
          rw [hg1] at this
          exact xe_isT h1 h3 (br_f (by decide) (nm_e (nm_e this)))
        · have h3 : 3 < pi_s P w i := by
            rw [hσ] at h4 ⊢
            refine nI_lt (a := 3) ?_ (by omega)
            have := Nat.le_of_not_lt (fun z => h4 (nI_lt (b := 4) z (by decide)))
            omega
          have h1 : ¬ pi_s P w i < 1 := fun z => h4 (Int32.lt_trans z (by decide))
          have := IH (nI (q i)) (by rw [hq0 i (fun z => h4 z.1)])
          rw [hg1] at this
          exact xe_isF h1 h3 (br_t rfl (nm_e this))
    refine br_f (nI_ge (by omega) (by omega)) (xe_sign ?_)
    have e := hg i
    by_cases h5 : pi_s P w i = 5
    · rw [decide_eq_true h5, Bool.or_true] at e
      rw [e] at k40
      exact br_t h5 k40
    · rw [decide_eq_false h5, Bool.or_false] at e
      rw [e] at k40
      exact br_f h5 k40
section
variable {cn ck fp pg ob hr sp ix sz pf sc ye yj : Int32}
variable {st kd pl wd tm dg dc ss pc op ox oy oz ps jp oi pa pt sh lc rc dr ln sn sd ch oth lw hg le bk fm vy : Nat → Int32}
variable {v1 v2 v4 P : Int32} {w : Nat}
theorem el_L (hw : w ≤ 8) : ∀ (d i : Nat), i + d = w →
    ((∀ post, post 0 → wX_isPicture_10 post P (nI w) (d + 1) (nI (pi_c P w i)) (rd_b (ep_pt P w i)) (rd_b (!(ep_fx P w i || ep_pt P w i))) (nI i)) ∧ (∀ post, post 0 (cn, fp, ck, pf, hr, sp, ix, sc, ye, sz, yj, st, kd, pl, ln, dc, tm, sn, sd, op, ox, oy, oz, sh, ch, oth, lw, hg, le, bk, fm, vy) → wY_edited_52 post v1 v2 P v4 (nI w) cn fp ck pf hr sp ix sc ye sz yj st kd pl ln dc tm sn sd op ox oy oz sh ch oth lw hg le bk fm vy (d + 1) (nI (ep_b P w i)) (nI (pi_c P w i)) (rd_b (ep_pt P w i)) (rd_b (ep_fx P w i)) (nI i))) ∨
    ((∀ k, i ≤ k → k < w → pi_s P w k ≠ 0) ∧ (∀ post : Int32 → Prop, ((nI (pi_c P w w) ≤ 0 → post 0) ∧ (¬ nI (pi_c P w w) ≤ 0 → post 1)) → wX_isPicture_10 post P (nI w) (d + 1) (nI (pi_c P w i)) (rd_b (ep_pt P w i)) (rd_b (!(ep_fx P w i || ep_pt P w i))) (nI i)) ∧
      (∀ post, wY_edited_52 post v1 v2 P v4 (nI w) cn fp ck pf hr sp ix sc ye sz yj st kd pl ln dc tm sn sd op ox oy oz sh ch oth lw hg le bk fm vy 1 (nI (ep_b P w w)) (nI (pi_c P w w)) (rd_b (ep_pt P w w)) (rd_b (ep_fx P w w)) (nI w) → wY_edited_52 post v1 v2 P v4 (nI w) cn fp ck pf hr sp ix sc ye sz yj st kd pl ln dc tm sn sd op ox oy oz sh ch oth lw hg le bk fm vy (d + 1) (nI (ep_b P w i)) (nI (pi_c P w i)) (rd_b (ep_pt P w i)) (rd_b (ep_fx P w i)) (nI i)))
  | 0, i, hd => by
    have e1 : i = w := by omega
    subst e1
    exact Or.inr ⟨fun k h1 h2 => absurd h2 (by omega), fun post hp => br_t (nI_le (Nat.le_refl _) (by omega)) hp, fun post hp => hp⟩
  | d + 1, i, hd => by
    have hge : ¬ nI w ≤ nI i := nI_ge (by omega) (by omega)
    obtain ⟨σ, hσ8, hσ⟩ := pi_v P w i
    have IH := el_L hw d (i + 1) (by omega)
    have ept : ep_pt P w (i + 1) = (ep_pt P w i || decide (pi_s P w i = 5)) := rfl
    have efx : ep_fx P w (i + 1) = (ep_fx P w i || decide (pi_s P w i = 1)) := rfl
    have eb : ep_b P w (i + 1) = ep_b P w i + (if pi_s P w i < 4 ∧ ep_pt P w (i + 1) = true then 1 else 0) := rfl
    have ec : pi_c P w (i + 1) = pi_c P w i + (if pi_s P w i < 4 then 1 else 0) := rfl
    rw [← nI_1] at IH
    -- a good sign: both sides go on
    have good : (pi_s P w i ≠ 0) → (∀ post : Int32 → Prop, wX_isPicture_10 post P (nI w) (d + 1) (nI (pi_c P w (i + 1))) (rd_b (ep_pt P w (i + 1))) (rd_b (!(ep_fx P w (i + 1) || ep_pt P w (i + 1)))) (nI i + 1) → wX_isPicture_10 post P (nI w) (d + 1 + 1) (nI (pi_c P w i)) (rd_b (ep_pt P w i)) (rd_b (!(ep_fx P w i || ep_pt P w i))) (nI i)) →
        (∀ post : Int32 → SY → Prop, wY_edited_52 post v1 v2 P v4 (nI w) cn fp ck pf hr sp ix sc ye sz yj st kd pl ln dc tm sn sd op ox oy oz sh ch oth lw hg le bk fm vy (d + 1) (nI (ep_b P w (i + 1))) (nI (pi_c P w (i + 1))) (rd_b (ep_pt P w (i + 1))) (rd_b (ep_fx P w (i + 1))) (nI i + 1) → wY_edited_52 post v1 v2 P v4 (nI w) cn fp ck pf hr sp ix sc ye sz yj st kd pl ln dc tm sn sd op ox oy oz sh ch oth lw hg le bk fm vy (d + 1 + 1) (nI (ep_b P w i)) (nI (pi_c P w i)) (rd_b (ep_pt P w i)) (rd_b (ep_fx P w i)) (nI i)) →
        (((∀ post : Int32 → Prop, post 0 → wX_isPicture_10 post P (nI w) (d + 1 + 1) (nI (pi_c P w i)) (rd_b (ep_pt P w i)) (rd_b (!(ep_fx P w i || ep_pt P w i))) (nI i)) ∧ (∀ post : Int32 → SY → Prop, post 0 (cn, fp, ck, pf, hr, sp, ix, sc, ye, sz, yj, st, kd, pl, ln, dc, tm, sn, sd, op, ox, oy, oz, sh, ch, oth, lw, hg, le, bk, fm, vy) → wY_edited_52 post v1 v2 P v4 (nI w) cn fp ck pf hr sp ix sc ye sz yj st kd pl ln dc tm sn sd op ox oy oz sh ch oth lw hg le bk fm vy (d + 1 + 1) (nI (ep_b P w i)) (nI (pi_c P w i)) (rd_b (ep_pt P w i)) (rd_b (ep_fx P w i)) (nI i))) ∨
        ((∀ k, i ≤ k → k < w → pi_s P w k ≠ 0) ∧ (∀ post : Int32 → Prop, ((nI (pi_c P w w) ≤ 0 → post 0) ∧ (¬ nI (pi_c P w w) ≤ 0 → post 1)) → wX_isPicture_10 post P (nI w) (d + 1 + 1) (nI (pi_c P w i)) (rd_b (ep_pt P w i)) (rd_b (!(ep_fx P w i || ep_pt P w i))) (nI i)) ∧
          (∀ post : Int32 → SY → Prop, wY_edited_52 post v1 v2 P v4 (nI w) cn fp ck pf hr sp ix sc ye sz yj st kd pl ln dc tm sn sd op ox oy oz sh ch oth lw hg le bk fm vy 1 (nI (ep_b P w w)) (nI (pi_c P w w)) (rd_b (ep_pt P w w)) (rd_b (ep_fx P w w)) (nI w) → wY_edited_52 post v1 v2 P v4 (nI w) cn fp ck pf hr sp ix sc ye sz yj st kd pl ln dc tm sn sd op ox oy oz sh ch oth lw hg le bk fm vy (d + 1 + 1) (nI (ep_b P w i)) (nI (pi_c P w i)) (rd_b (ep_pt P w i)) (rd_b (ep_fx P w i)) (nI i)))) := by
      intro h0 hX hY
      rcases IH with ⟨iX, iY⟩ | ⟨iz, iX, iY⟩
      · exact Or.inl ⟨fun post hp => hX post (iX post hp), fun post hp => hY post (iY post hp)⟩
      · refine Or.inr ⟨fun k h1 h2 => ?_, fun post hp => hX post (iX post hp), fun post hp => hY post (iY post hp)⟩
        by_cases e : k = i
        · subst e
          exact h0
        · exact iz k (by omega) h2
    clear IH
    rcases (show σ = 0 ∨ σ = 1 ∨ σ = 2 ∨ σ = 3 ∨ σ = 4 ∨ σ = 5 ∨ σ = 6 ∨ σ = 7 by omega) with e | e | e | e | e | e | e | e <;> subst e <;> rcases (Bool.eq_false_or_eq_true (ep_pt P w i)).symm with hA | hA <;> rcases (Bool.eq_false_or_eq_true (ep_fx P w i)).symm with hF | hF <;> rw [hσ] at ept efx eb ec <;> rw [hA] at ept <;> rw [hF] at efx <;> rw [ept] at eb
    · refine Or.inl ⟨fun post hp => br_f hge (xe_sign ?_), fun post hp => br_f hge (nm_r hσ ?_)⟩
      · rw [hσ, hA, hF]
        exact br_t rfl hp
      · rw [hA, hF]
        exact br_t rfl hp
    · refine Or.inl ⟨fun post hp => br_f hge (xe_sign ?_), fun post hp => br_f hge (nm_r hσ ?_)⟩
      · rw [hσ, hA, hF]
        exact br_t rfl hp
      · rw [hA, hF]
        exact br_t rfl hp
    · refine Or.inl ⟨fun post hp => br_f hge (xe_sign ?_), fun post hp => br_f hge (nm_r hσ ?_)⟩
      · rw [hσ, hA, hF]
        exact br_t rfl hp
      · rw [hA, hF]
        exact br_t rfl hp
    · refine Or.inl ⟨fun post hp => br_f hge (xe_sign ?_), fun post hp => br_f hge (nm_r hσ ?_)⟩
      · rw [hσ, hA, hF]
        exact br_t rfl hp
      · rw [hA, hF]
        exact br_t rfl hp
    · refine good (by rw [hσ]; decide) (fun post H => br_f hge (xe_sign ?_)) (fun post H => br_f hge (nm_r hσ ?_))
      · rw [ec, ept, efx] at H
        rw [hσ, hA, hF]
        exact br_f (by decide) (br_t (by decide) (br_f (by decide) (br_f (by decide) (br_f (by decide) (br_t rfl (br_f (by decide) (xe_isT (by decide) (by decide) (br_f (by decide) (nm_r (nI_1 _) (nm_e H))))))))))
      · rw [ec, ept, efx, eb] at H
        rw [hA, hF]
        exact br_f (by decide) (br_f (by decide) (br_t (by decide) (br_f (by decide) (br_f (by decide) (br_f (by decide) (nm_r (show rd_b false ||| 0 = rd_b false by decide) (br_t rfl (nm_r (show rd_b false ||| 1 = rd_b true by decide) (br_f (by decide) (nm_r (nI_1 _) (br_f (by decide) (br_t rfl (nm_e H)))))))))))))
    · refine good (by rw [hσ]; decide) (fun post H => br_f hge (xe_sign ?_)) (fun post H => br_f hge (nm_r hσ ?_))
      · rw [ec, ept, efx] at H
        rw [hσ, hA, hF]
        exact br_f (by decide) (br_t (by decide) (br_f (by decide) (br_f (by decide) (br_f (by decide) (br_t rfl (br_f (by decide) (xe_isT (by decide) (by decide) (br_f (by decide) (nm_r (nI_1 _) (nm_e H))))))))))
      · rw [ec, ept, efx, eb] at H
        rw [hA, hF]
        exact br_f (by decide) (br_f (by decide) (br_t (by decide) (br_f (by decide) (br_f (by decide) (br_f (by decide) (nm_r (show rd_b false ||| 0 = rd_b false by decide) (br_t rfl (nm_r (show rd_b true ||| 1 = rd_b true by decide) (br_f (by decide) (nm_r (nI_1 _) (br_f (by decide) (br_t rfl (nm_e H)))))))))))))
    · refine good (by rw [hσ]; decide) (fun post H => br_f hge (xe_sign ?_)) (fun post H => br_f hge (nm_r hσ ?_))
      · rw [ec, ept, efx] at H
        rw [hσ, hA, hF]
        exact br_f (by decide) (br_t (by decide) (br_f (by decide) (br_f (by decide) (br_f (by decide) (br_t rfl (br_f (by decide) (xe_isT (by decide) (by decide) (br_f (by decide) (nm_r (nI_1 _) (nm_e H))))))))))
      · rw [ec, ept, efx, eb] at H
        rw [hA, hF]
        exact br_f (by decide) (br_f (by decide) (br_t (by decide) (br_f (by decide) (br_f (by decide) (br_f (by decide) (nm_r (show rd_b true ||| 0 = rd_b true by decide) (br_t rfl (nm_r (show rd_b false ||| 1 = rd_b true by decide) (br_f (by decide) (nm_r (nI_1 _) (br_f (by decide) (br_f (by decide) (nm_r (nI_1 _) (nm_e H))))))))))))))
    · refine good (by rw [hσ]; decide) (fun post H => br_f hge (xe_sign ?_)) (fun post H => br_f hge (nm_r hσ ?_))
      · rw [ec, ept, efx] at H
        rw [hσ, hA, hF]
        exact br_f (by decide) (br_t (by decide) (br_f (by decide) (br_f (by decide) (br_f (by decide) (br_t rfl (br_f (by decide) (xe_isT (by decide) (by decide) (br_f (by decide) (nm_r (nI_1 _) (nm_e H))))))))))
      · rw [ec, ept, efx, eb] at H
        rw [hA, hF]
        exact br_f (by decide) (br_f (by decide) (br_t (by decide) (br_f (by decide) (br_f (by decide) (br_f (by decide) (nm_r (show rd_b true ||| 0 = rd_b true by decide) (br_t rfl (nm_r (show rd_b true ||| 1 = rd_b true by decide) (br_f (by decide) (nm_r (nI_1 _) (br_f (by decide) (br_f (by decide) (nm_r (nI_1 _) (nm_e H))))))))))))))
    · refine good (by rw [hσ]; decide) (fun post H => br_f hge (xe_sign ?_)) (fun post H => br_f hge (nm_r hσ ?_))
      · rw [ec, ept, efx] at H
        rw [hσ, hA, hF]
        exact br_f (by decide) (br_t (by decide) (br_f (by decide) (br_t rfl (br_f (by decide) (br_f (by decide) (br_f (by decide) (br_f (by decide) (xe_isT (by decide) (by decide) (br_f (by decide) (nm_r (nI_1 _) (nm_e H)))))))))))
      · rw [ec, ept, efx, eb] at H
        rw [hA, hF]
        exact br_f (by decide) (br_f (by decide) (br_t (by decide) (br_t rfl (br_t rfl (br_t rfl (br_f (by decide) (nm_r (show rd_b false ||| 0 = rd_b false by decide) (br_f (by decide) (nm_r (show rd_b false ||| 0 = rd_b false by decide) (br_f (by decide) (nm_r (nI_1 _) (br_f (by decide) (br_t rfl (nm_e H))))))))))))))
    · refine Or.inl ⟨fun post hp => br_f hge (xe_sign ?_), fun post hp => br_f hge (nm_r hσ ?_)⟩
      · rw [hσ, hA, hF]
        exact br_f (by decide) (br_t (by decide) (br_f (by decide) (br_t rfl (br_t rfl hp))))
      · rw [hA, hF]
        exact br_f (by decide) (br_f (by decide) (br_t (by decide) (br_t rfl (br_f (by decide) hp))))
    · refine Or.inl ⟨fun post hp => br_f hge (xe_sign ?_), fun post hp => br_f hge (nm_r hσ ?_)⟩
      · rw [hσ, hA, hF]
        exact br_f (by decide) (br_t (by decide) (br_f (by decide) (br_t rfl (br_t rfl hp))))
      · rw [hA, hF]
        exact br_f (by decide) (br_f (by decide) (br_t (by decide) (br_t rfl (br_t rfl (br_f (by decide) hp)))))
    · refine Or.inl ⟨fun post hp => br_f hge (xe_sign ?_), fun post hp => br_f hge (nm_r hσ ?_)⟩
      · rw [hσ, hA, hF]
        exact br_f (by decide) (br_t (by decide) (br_f (by decide) (br_t rfl (br_t rfl hp))))
      · rw [hA, hF]
        exact br_f (by decide) (br_f (by decide) (br_t (by decide) (br_t rfl (br_f (by decide) hp))))
    · refine good (by rw [hσ]; decide) (fun post H => br_f hge (xe_sign ?_)) (fun post H => br_f hge (nm_r hσ ?_))
      · rw [ec, ept, efx] at H
        rw [hσ, hA, hF]
        exact br_f (by decide) (br_t (by decide) (br_f (by decide) (br_f (by decide) (br_t rfl (br_f (by decide) (br_f (by decide) (br_f (by decide) (br_f (by decide) (xe_isT (by decide) (by decide) (br_f (by decide) (nm_r (nI_1 _) (nm_e H))))))))))))
      · rw [ec, ept, efx, eb] at H
        rw [hA, hF]
        exact br_f (by decide) (br_f (by decide) (br_t (by decide) (br_f (by decide) (br_t rfl (br_t rfl (br_t rfl (br_f (by decide) (nm_r (show rd_b false ||| 0 = rd_b false by decide) (br_f (by decide) (nm_r (show rd_b false ||| 0 = rd_b false by decide) (br_f (by decide) (nm_r (nI_1 _) (br_f (by decide) (br_t rfl (nm_e H)))))))))))))))
    · refine Or.inl ⟨fun post hp => br_f hge (xe_sign ?_), fun post hp => br_f hge (nm_r hσ ?_)⟩
      · rw [hσ, hA, hF]
        exact br_f (by decide) (br_t (by decide) (br_f (by decide) (br_f (by decide) (br_t rfl (br_t rfl hp)))))
      · rw [hA, hF]
        exact br_f (by decide) (br_f (by decide) (br_t (by decide) (br_f (by decide) (br_t rfl (br_f (by decide) hp)))))
    · refine Or.inl ⟨fun post hp => br_f hge (xe_sign ?_), fun post hp => br_f hge (nm_r hσ ?_)⟩
      · rw [hσ, hA, hF]
        exact br_f (by decide) (br_t (by decide) (br_f (by decide) (br_f (by decide) (br_t rfl (br_t rfl hp)))))
      · rw [hA, hF]
        exact br_f (by decide) (br_f (by decide) (br_t (by decide) (br_f (by decide) (br_t rfl (br_t rfl (br_f (by decide) hp))))))
    · refine Or.inl ⟨fun post hp => br_f hge (xe_sign ?_), fun post hp => br_f hge (nm_r hσ ?_)⟩
      · rw [hσ, hA, hF]
        exact br_f (by decide) (br_t (by decide) (br_f (by decide) (br_f (by decide) (br_t rfl (br_t rfl hp)))))
      · rw [hA, hF]
        exact br_f (by decide) (br_f (by decide) (br_t (by decide) (br_f (by decide) (br_t rfl (br_f (by decide) hp)))))
    · refine good (by rw [hσ]; decide) (fun post H => br_f hge (xe_sign ?_)) (fun post H => br_f hge (nm_r hσ ?_))
      · rw [ec, ept, efx] at H
        rw [hσ, hA, hF]
        exact br_f (by decide) (br_t (by decide) (br_f (by decide) (br_f (by decide) (br_f (by decide) (br_f (by decide) (br_f (by decide) (br_f (by decide) (xe_isF (by decide) (by decide) (br_t rfl (nm_e H))))))))))
      · rw [ec, ept, efx, eb] at H
        rw [hA, hF]
        exact br_f (by decide) (br_f (by decide) (br_t (by decide) (br_f (by decide) (br_f (by decide) (br_f (by decide) (nm_r (show rd_b false ||| 0 = rd_b false by decide) (br_f (by decide) (nm_r (show rd_b false ||| 0 = rd_b false by decide) (br_t (by decide) (br_t (by decide) (nm_e H)))))))))))
    · refine good (by rw [hσ]; decide) (fun post H => br_f hge (xe_sign ?_)) (fun post H => br_f hge (nm_r hσ ?_))
      · rw [ec, ept, efx] at H
        rw [hσ, hA, hF]
        exact br_f (by decide) (br_t (by decide) (br_f (by decide) (br_f (by decide) (br_f (by decide) (br_f (by decide) (br_f (by decide) (br_f (by decide) (xe_isF (by decide) (by decide) (br_t rfl (nm_e H))))))))))
      · rw [ec, ept, efx, eb] at H
        rw [hA, hF]
        exact br_f (by decide) (br_f (by decide) (br_t (by decide) (br_f (by decide) (br_f (by decide) (br_f (by decide) (nm_r (show rd_b false ||| 0 = rd_b false by decide) (br_f (by decide) (nm_r (show rd_b true ||| 0 = rd_b true by decide) (br_t (by decide) (br_t (by decide) (nm_e H)))))))))))
    · refine good (by rw [hσ]; decide) (fun post H => br_f hge (xe_sign ?_)) (fun post H => br_f hge (nm_r hσ ?_))
      · rw [ec, ept, efx] at H
        rw [hσ, hA, hF]
        exact br_f (by decide) (br_t (by decide) (br_f (by decide) (br_f (by decide) (br_f (by decide) (br_f (by decide) (br_f (by decide) (br_f (by decide) (xe_isF (by decide) (by decide) (br_t rfl (nm_e H))))))))))
      · rw [ec, ept, efx, eb] at H
        rw [hA, hF]
        exact br_f (by decide) (br_f (by decide) (br_t (by decide) (br_f (by decide) (br_f (by decide) (br_f (by decide) (nm_r (show rd_b true ||| 0 = rd_b true by decide) (br_f (by decide) (nm_r (show rd_b false ||| 0 = rd_b false by decide) (br_t (by decide) (br_t (by decide) (nm_e H)))))))))))
    · refine good (by rw [hσ]; decide) (fun post H => br_f hge (xe_sign ?_)) (fun post H => br_f hge (nm_r hσ ?_))
      · rw [ec, ept, efx] at H
        rw [hσ, hA, hF]
        exact br_f (by decide) (br_t (by decide) (br_f (by decide) (br_f (by decide) (br_f (by decide) (br_f (by decide) (br_f (by decide) (br_f (by decide) (xe_isF (by decide) (by decide) (br_t rfl (nm_e H))))))))))
      · rw [ec, ept, efx, eb] at H
        rw [hA, hF]
        exact br_f (by decide) (br_f (by decide) (br_t (by decide) (br_f (by decide) (br_f (by decide) (br_f (by decide) (nm_r (show rd_b true ||| 0 = rd_b true by decide) (br_f (by decide) (nm_r (show rd_b true ||| 0 = rd_b true by decide) (br_t (by decide) (br_t (by decide) (nm_e H)))))))))))
    · refine good (by rw [hσ]; decide) (fun post H => br_f hge (xe_sign ?_)) (fun post H => br_f hge (nm_r hσ ?_))
      · rw [ec, ept, efx] at H
        rw [hσ, hA, hF]
        exact br_f (by decide) (br_t (by decide) (br_t rfl (br_t rfl (br_f (by decide) (br_f (by decide) (br_f (by decide) (br_t rfl (br_t rfl (xe_isF (by decide) (by decide) (br_t rfl (nm_e H)))))))))))
      · rw [ec, ept, efx, eb] at H
        rw [hA, hF]
        exact br_f (by decide) (br_t rfl (br_t rfl (br_t (by decide) (br_f (by decide) (br_f (by decide) (br_t rfl (nm_r (show rd_b false ||| 1 = rd_b true by decide) (br_f (by decide) (nm_r (show rd_b false ||| 0 = rd_b false by decide) (br_t (by decide) (br_t (by decide) (nm_e H))))))))))))
    · refine good (by rw [hσ]; decide) (fun post H => br_f hge (xe_sign ?_)) (fun post H => br_f hge (nm_r hσ ?_))
      · rw [ec, ept, efx] at H
        rw [hσ, hA, hF]
        exact br_f (by decide) (br_t (by decide) (br_t rfl (br_t rfl (br_f (by decide) (br_f (by decide) (br_f (by decide) (br_t rfl (br_t rfl (xe_isF (by decide) (by decide) (br_t rfl (nm_e H)))))))))))
      · rw [ec, ept, efx, eb] at H
        rw [hA, hF]
        exact br_f (by decide) (br_t rfl (br_t rfl (br_t (by decide) (br_f (by decide) (br_f (by decide) (br_t rfl (nm_r (show rd_b false ||| 1 = rd_b true by decide) (br_f (by decide) (nm_r (show rd_b true ||| 0 = rd_b true by decide) (br_t (by decide) (br_t (by decide) (nm_e H))))))))))))
    · refine Or.inl ⟨fun post hp => br_f hge (xe_sign ?_), fun post hp => br_f hge (nm_r hσ ?_)⟩
      · rw [hσ, hA, hF]
        exact br_f (by decide) (br_t (by decide) (br_t rfl (br_f (by decide) hp)))
      · rw [hA, hF]
        exact br_f (by decide) (br_t rfl (br_f (by decide) hp))
    · refine Or.inl ⟨fun post hp => br_f hge (xe_sign ?_), fun post hp => br_f hge (nm_r hσ ?_)⟩
      · rw [hσ, hA, hF]
        exact br_f (by decide) (br_t (by decide) (br_t rfl (br_f (by decide) hp)))
      · rw [hA, hF]
        exact br_f (by decide) (br_t rfl (br_f (by decide) hp))
    · by_cases hz : i = 0
      · have hi0 : ¬ 0 < nI i := by rw [hz]; decide
        refine good (by rw [hσ]; decide) (fun post H => br_f hge (xe_sign ?_)) (fun post H => br_f hge (nm_r hσ ?_))
        · rw [ec, ept, efx] at H
          rw [hσ, hA, hF]
          exact br_f (by decide) (br_f (by decide) (br_f hi0 (br_f (by decide) (br_f (by decide) (br_f (by decide) (br_f (by decide) (br_f (by decide) (br_f (by decide) (xe_isF (by decide) (by decide) (br_t rfl (nm_e H)))))))))))
        · rw [ec, ept, efx, eb] at H
          rw [hA, hF]
          exact br_f (by decide) (br_f (by decide) (br_f (by decide) (br_f hi0 (br_f (by decide) (br_f (by decide) (br_f (by decide) (nm_r (show rd_b false ||| 0 = rd_b false by decide) (br_f (by decide) (nm_r (show rd_b false ||| 0 = rd_b false by decide) (br_t (by decide) (br_t (by decide) (nm_e H))))))))))))
      · have hi1 : 0 < nI i := nI_lt (a := 0) (by omega) (by omega)
        refine Or.inl ⟨fun post hp => br_f hge (xe_sign ?_), fun post hp => br_f hge (nm_r hσ ?_)⟩
        · rw [hσ, hA, hF]
          exact br_f (by decide) (br_f (by decide) (br_t hi1 hp))
        · rw [hA, hF]
          exact br_f (by decide) (br_f (by decide) (br_f (by decide) (br_t hi1 hp)))
    · by_cases hz : i = 0
      · have hi0 : ¬ 0 < nI i := by rw [hz]; decide
        refine good (by rw [hσ]; decide) (fun post H => br_f hge (xe_sign ?_)) (fun post H => br_f hge (nm_r hσ ?_))
        · rw [ec, ept, efx] at H
          rw [hσ, hA, hF]
          exact br_f (by decide) (br_f (by decide) (br_f hi0 (br_f (by decide) (br_f (by decide) (br_f (by decide) (br_f (by decide) (br_f (by decide) (br_f (by decide) (xe_isF (by decide) (by decide) (br_t rfl (nm_e H)))))))))))
        · rw [ec, ept, efx, eb] at H
          rw [hA, hF]
          exact br_f (by decide) (br_f (by decide) (br_f (by decide) (br_f hi0 (br_f (by decide) (br_f (by decide) (br_f (by decide) (nm_r (show rd_b false ||| 0 = rd_b false by decide) (br_f (by decide) (nm_r (show rd_b true ||| 0 = rd_b true by decide) (br_t (by decide) (br_t (by decide) (nm_e H))))))))))))
      · have hi1 : 0 < nI i := nI_lt (a := 0) (by omega) (by omega)
        refine Or.inl ⟨fun post hp => br_f hge (xe_sign ?_), fun post hp => br_f hge (nm_r hσ ?_)⟩
        · rw [hσ, hA, hF]
          exact br_f (by decide) (br_f (by decide) (br_t hi1 hp))
        · rw [hA, hF]
          exact br_f (by decide) (br_f (by decide) (br_f (by decide) (br_t hi1 hp)))
    · by_cases hz : i = 0
      · have hi0 : ¬ 0 < nI i := by rw [hz]; decide
        refine good (by rw [hσ]; decide) (fun post H => br_f hge (xe_sign ?_)) (fun post H => br_f hge (nm_r hσ ?_))
        · rw [ec, ept, efx] at H
          rw [hσ, hA, hF]
          exact br_f (by decide) (br_f (by decide) (br_f hi0 (br_f (by decide) (br_f (by decide) (br_f (by decide) (br_f (by decide) (br_f (by decide) (br_f (by decide) (xe_isF (by decide) (by decide) (br_t rfl (nm_e H)))))))))))
        · rw [ec, ept, efx, eb] at H
          rw [hA, hF]
          exact br_f (by decide) (br_f (by decide) (br_f (by decide) (br_f hi0 (br_f (by decide) (br_f (by decide) (br_f (by decide) (nm_r (show rd_b true ||| 0 = rd_b true by decide) (br_f (by decide) (nm_r (show rd_b false ||| 0 = rd_b false by decide) (br_t (by decide) (br_t (by decide) (nm_e H))))))))))))
      · have hi1 : 0 < nI i := nI_lt (a := 0) (by omega) (by omega)
        refine Or.inl ⟨fun post hp => br_f hge (xe_sign ?_), fun post hp => br_f hge (nm_r hσ ?_)⟩
        · rw [hσ, hA, hF]
          exact br_f (by decide) (br_f (by decide) (br_t hi1 hp))
        · rw [hA, hF]
          exact br_f (by decide) (br_f (by decide) (br_f (by decide) (br_t hi1 hp)))
    · by_cases hz : i = 0
      · have hi0 : ¬ 0 < nI i := by rw [hz]; decide
        refine good (by rw [hσ]; decide) (fun post H => br_f hge (xe_sign ?_)) (fun post H => br_f hge (nm_r hσ ?_))
        · rw [ec, ept, efx] at H
          rw [hσ, hA, hF]
          exact br_f (by decide) (br_f (by decide) (br_f hi0 (br_f (by decide) (br_f (by decide) (br_f (by decide) (br_f (by decide) (br_f (by decide) (br_f (by decide) (xe_isF (by decide) (by decide) (br_t rfl (nm_e H)))))))))))
        · rw [ec, ept, efx, eb] at H
          rw [hA, hF]
          exact br_f (by decide) (br_f (by decide) (br_f (by decide) (br_f hi0 (br_f (by decide) (br_f (by decide) (br_f (by decide) (nm_r (show rd_b true ||| 0 = rd_b true by decide) (br_f (by decide) (nm_r (show rd_b true ||| 0 = rd_b true by decide) (br_t (by decide) (br_t (by decide) (nm_e H))))))))))))
      · have hi1 : 0 < nI i := nI_lt (a := 0) (by omega) (by omega)
        refine Or.inl ⟨fun post hp => br_f hge (xe_sign ?_), fun post hp => br_f hge (nm_r hσ ?_)⟩
        · rw [hσ, hA, hF]
          exact br_f (by decide) (br_f (by decide) (br_t hi1 hp))
        · rw [hA, hF]
          exact br_f (by decide) (br_f (by decide) (br_f (by decide) (br_t hi1 hp)))
    · by_cases hz : i = 0
      · have hi0 : ¬ 0 < nI i := by rw [hz]; decide
        refine good (by rw [hσ]; decide) (fun post H => br_f hge (xe_sign ?_)) (fun post H => br_f hge (nm_r hσ ?_))
        · rw [ec, ept, efx] at H
          rw [hσ, hA, hF]
          exact br_f (by decide) (br_f (by decide) (br_f hi0 (br_f (by decide) (br_f (by decide) (br_f (by decide) (br_f (by decide) (br_f (by decide) (br_f (by decide) (xe_isF (by decide) (by decide) (br_t rfl (nm_e H)))))))))))
        · rw [ec, ept, efx, eb] at H
          rw [hA, hF]
          exact br_f (by decide) (br_f (by decide) (br_f (by decide) (br_f hi0 (br_f (by decide) (br_f (by decide) (br_f (by decide) (nm_r (show rd_b false ||| 0 = rd_b false by decide) (br_f (by decide) (nm_r (show rd_b false ||| 0 = rd_b false by decide) (br_t (by decide) (br_t (by decide) (nm_e H))))))))))))
      · have hi1 : 0 < nI i := nI_lt (a := 0) (by omega) (by omega)
        refine Or.inl ⟨fun post hp => br_f hge (xe_sign ?_), fun post hp => br_f hge (nm_r hσ ?_)⟩
        · rw [hσ, hA, hF]
          exact br_f (by decide) (br_f (by decide) (br_t hi1 hp))
        · rw [hA, hF]
          exact br_f (by decide) (br_f (by decide) (br_f (by decide) (br_t hi1 hp)))
    · by_cases hz : i = 0
      · have hi0 : ¬ 0 < nI i := by rw [hz]; decide
        refine good (by rw [hσ]; decide) (fun post H => br_f hge (xe_sign ?_)) (fun post H => br_f hge (nm_r hσ ?_))
        · rw [ec, ept, efx] at H
          rw [hσ, hA, hF]
          exact br_f (by decide) (br_f (by decide) (br_f hi0 (br_f (by decide) (br_f (by decide) (br_f (by decide) (br_f (by decide) (br_f (by decide) (br_f (by decide) (xe_isF (by decide) (by decide) (br_t rfl (nm_e H)))))))))))
        · rw [ec, ept, efx, eb] at H
          rw [hA, hF]
          exact br_f (by decide) (br_f (by decide) (br_f (by decide) (br_f hi0 (br_f (by decide) (br_f (by decide) (br_f (by decide) (nm_r (show rd_b false ||| 0 = rd_b false by decide) (br_f (by decide) (nm_r (show rd_b true ||| 0 = rd_b true by decide) (br_t (by decide) (br_t (by decide) (nm_e H))))))))))))
      · have hi1 : 0 < nI i := nI_lt (a := 0) (by omega) (by omega)
        refine Or.inl ⟨fun post hp => br_f hge (xe_sign ?_), fun post hp => br_f hge (nm_r hσ ?_)⟩
        · rw [hσ, hA, hF]
          exact br_f (by decide) (br_f (by decide) (br_t hi1 hp))
        · rw [hA, hF]
          exact br_f (by decide) (br_f (by decide) (br_f (by decide) (br_t hi1 hp)))
    · by_cases hz : i = 0
      · have hi0 : ¬ 0 < nI i := by rw [hz]; decide
        refine good (by rw [hσ]; decide) (fun post H => br_f hge (xe_sign ?_)) (fun post H => br_f hge (nm_r hσ ?_))
        · rw [ec, ept, efx] at H
          rw [hσ, hA, hF]
          exact br_f (by decide) (br_f (by decide) (br_f hi0 (br_f (by decide) (br_f (by decide) (br_f (by decide) (br_f (by decide) (br_f (by decide) (br_f (by decide) (xe_isF (by decide) (by decide) (br_t rfl (nm_e H)))))))))))
        · rw [ec, ept, efx, eb] at H
          rw [hA, hF]
          exact br_f (by decide) (br_f (by decide) (br_f (by decide) (br_f hi0 (br_f (by decide) (br_f (by decide) (br_f (by decide) (nm_r (show rd_b true ||| 0 = rd_b true by decide) (br_f (by decide) (nm_r (show rd_b false ||| 0 = rd_b false by decide) (br_t (by decide) (br_t (by decide) (nm_e H))))))))))))
      · have hi1 : 0 < nI i := nI_lt (a := 0) (by omega) (by omega)
        refine Or.inl ⟨fun post hp => br_f hge (xe_sign ?_), fun post hp => br_f hge (nm_r hσ ?_)⟩
        · rw [hσ, hA, hF]
          exact br_f (by decide) (br_f (by decide) (br_t hi1 hp))
        · rw [hA, hF]
          exact br_f (by decide) (br_f (by decide) (br_f (by decide) (br_t hi1 hp)))
    · by_cases hz : i = 0
      · have hi0 : ¬ 0 < nI i := by rw [hz]; decide
        refine good (by rw [hσ]; decide) (fun post H => br_f hge (xe_sign ?_)) (fun post H => br_f hge (nm_r hσ ?_))
        · rw [ec, ept, efx] at H
          rw [hσ, hA, hF]
          exact br_f (by decide) (br_f (by decide) (br_f hi0 (br_f (by decide) (br_f (by decide) (br_f (by decide) (br_f (by decide) (br_f (by decide) (br_f (by decide) (xe_isF (by decide) (by decide) (br_t rfl (nm_e H)))))))))))
        · rw [ec, ept, efx, eb] at H
          rw [hA, hF]
          exact br_f (by decide) (br_f (by decide) (br_f (by decide) (br_f hi0 (br_f (by decide) (br_f (by decide) (br_f (by decide) (nm_r (show rd_b true ||| 0 = rd_b true by decide) (br_f (by decide) (nm_r (show rd_b true ||| 0 = rd_b true by decide) (br_t (by decide) (br_t (by decide) (nm_e H))))))))))))
      · have hi1 : 0 < nI i := nI_lt (a := 0) (by omega) (by omega)
        refine Or.inl ⟨fun post hp => br_f hge (xe_sign ?_), fun post hp => br_f hge (nm_r hσ ?_)⟩
        · rw [hσ, hA, hF]
          exact br_f (by decide) (br_f (by decide) (br_t hi1 hp))
        · rw [hA, hF]
          exact br_f (by decide) (br_f (by decide) (br_f (by decide) (br_t hi1 hp)))
end
section
variable {cn ck fp pg ob hr sp ix sz pf sc ye yj : Int32}
variable {st kd pl wd tm dg dc ss pc op ox oy oz ps jp oi pa pt sh lc rc dr ln sn sd ch oth lw hg le bk fm vy : Nat → Int32}
variable {v1 v2 v4 P : Int32} {w m j : Nat}
theorem yw_cntL {post : Int32 → SY → Prop} (hm : m < 2 ^ 31) (hw8 : w ≤ 8) (hw : m / 8 ^ w = 0) (hi : ∀ i, i < w → ¬ m / 8 ^ i = 0) (h : ∃ n52, wY_edited_52 post v1 v2 P v4 (nI w) cn fp ck pf hr sp ix sc ye sz yj st kd pl ln dc tm sn sd op ox oy oz sh ch oth lw hg le bk fm vy n52 0 0 0 0 0) : ∀ (d i : Nat) (x5 x6 : Int32), i + d = w → x5 = nI i → x6 = nI (m / 8 ^ i) → wY_edited_31 post v1 v2 P v4 0 0 0 0 cn fp ck pf hr sp ix sc ye sz yj st kd pl ln dc tm sn sd op ox oy oz sh ch oth lw hg le bk fm vy (d + 1) x5 x6
  | 0, i, x5, x6, hd, h5, h6 => by
    subst h5 h6
    have e1 : i = w := by omega
    subst e1
    rw [hw]
    exact br_t (by decide) h
  | d + 1, i, x5, x6, hd, h5, h6 => by
    subst h5 h6
    have hq : m / 8 ^ i ≤ m := Nat.div_le_self _ _
    have hp := hi i (by omega)
    refine br_f ?_ ⟨by decide, nm_e (nm_e (yw_cntL hm hw8 hw hi h d (i + 1) _ _ (by omega) (nI_1 i) ?_))⟩
    · generalize m / 8 ^ i = q at *
      exact nI_nle (by omega) (by omega)
    · rw [ew_d (by omega), ew_n]
theorem yw_sgL {post : Int32 → SY → Prop} (hj : j < 12) (hw : w ≤ 8) (h : post 1 (cn, fp, ck, pf, hr, sp, ix, sc, ye, sz, yj, st, kd, pl, ln, dc, tm, sg_put sn (8 * j) 0 w (pi_s P w), sd, op, ox, oy, oz, sh, ch, oth, lw, hg, le, bk, fm, vy)) : ∀ (d i : Nat) (x11 : Int32) (q : Nat → Int32), i + d = w → x11 = nI i → q = sg_put sn (8 * j) 0 i (pi_s P w) → wY_edited_223 post (nI j) P (nI w) cn fp ck pf hr sp ix sc ye sz yj (d + 1) x11 st kd pl ln dc tm q sd op ox oy oz sh ch oth lw hg le bk fm vy
  | 0, i, x11, q, hd, h1, hq => by
    subst h1 hq
    have e1 : i = w := by omega
    subst e1
    exact br_t (nI_le (Nat.le_refl _) (by omega)) h
  | d + 1, i, x11, q, hd, h1, hq => by
    subst h1 hq
    refine br_f (nI_ge (by omega) (by omega)) ?_
    rw [ed_ix, nI_clamp (show 8 * j + i < 2 ^ 31 by omega)]
    exact ⟨vp_in_nI (by omega) (by decide), nm_r (sg_up sn (8 * j) 0 i (pi_s P w) (by omega)) (nm_e (yw_sgL hj hw h d (i + 1) _ _ (by omega) (nI_1 i) rfl))⟩
end
theorem iv_edited {u : SX} {v : SY} (I : iv_R u v) (v1 v2 v3 v4 : Int32) : wpX_edited (fun r u' => wpY_edited (fun r' v' => r' = r ∧ iv_R u' v') v v1 v2 v3 v4) u v1 v2 v3 v4 := by
  have I0 := I
  obtain ⟨cn, ck, fp, pg, ob, hr, sp, ix, sz, pf, sc, st, kd, pl, wd, tm, dg, dc, ss, pc, op, ox, oy, oz, ps, jp, oi, pa, pt, sh, lc, rc, dr⟩ := u
  obtain ⟨cn', fp', ck', pf', hr', sp', ix', sc', ye, sz', yj, st', kd', pl', ln, dc', tm', sn, sd, op', ox', oy', oz', sh', ch, oth, lw, hg, le, bk, fm, vy⟩ := v
  obtain ⟨⟨rfl, rfl, rfl, rfl, rfl, rfl, rfl, rfl, rfl, rfl, rfl, rfl, rfl, rfl, rfl, rfl, rfl⟩, ok, hA, ⟨n, hn, rfl, ho, hP⟩, hck, hsz⟩ := I
  unfold wpX_edited
  by_cases hv : ∃ m, 1 ≤ m ∧ m ≤ 16777215 ∧ v3 = nI m
  · obtain ⟨m, hm1, hm2, rfl⟩ := hv
    obtain ⟨w, hw1, hw8, hw0, hwi⟩ := ew_ex (m := m) (by omega) (by omega)
    have y1 : ¬ nI m < 1 := nI_nlt (b := 1) hm1 (by omega)
    have y2 : nI m ≤ 16777215 := nI_le (b := 16777215) hm2 (by decide)
    have hww : nI w ≤ nI w := nI_le (Nat.le_refl _) (by omega)
    refine ⟨w + 1, xw_cntL (by omega) hw8 hw0 hwi ?_ w 0 _ _ _ (by omega) (by rw [Nat.pow_zero, Nat.div_one]) rfl rfl⟩
    -- the reference up to its picture loop
    have yp : ∀ post : Int32 → SY → Prop, (∃ n52, wY_edited_52 post v1 v2 (nI m) v4 (nI w) (nI n) fp' ck' pf' hr' sp' ix' sc' ye sz' yj st' kd' pl' ln dc' tm' sn sd op' ox' oy' oz' sh' ch oth lw hg le bk fm vy n52 0 0 0 0 0) → wpY_edited post (nI n, fp', ck', pf', hr', sp', ix', sc', ye, sz', yj, st', kd', pl', ln, dc', tm', sn, sd, op', ox', oy', oz', sh', ch, oth, lw, hg, le, bk, fm, vy) v1 v2 (nI m) v4 := fun post h =>
      br_f y1 (br_t y2 ⟨w + 1, yw_cntL (by omega) hw8 hw0 hwi h w 0 _ _ (by omega) rfl (by rw [Nat.pow_zero, Nat.div_one])⟩)
    rcases el_L (cn := nI n) (fp := fp') (ck := ck') (pf := pf') (hr := hr') (sp := sp') (ix := ix') (sc := sc') (ye := ye) (sz := sz') (yj := yj) (st := st') (kd := kd') (pl := pl') (ln := ln) (dc := dc') (tm := tm') (sn := sn) (sd := sd) (op := op') (ox := ox') (oy := oy') (oz := oz') (sh := sh') (ch := ch) (oth := oth) (lw := lw) (hg := hg) (le := le) (bk := bk) (fm := fm) (vy := vy) (v1 := v1) (v2 := v2) (v4 := v4) (P := nI m) hw8 w 0 (by omega) with ⟨eX, eY⟩ | ⟨hz, eX, eY⟩
    · exact ⟨w + 1, eX _ (br_t rfl (yp _ ⟨w + 1, eY _ ⟨rfl, I0⟩⟩))⟩
    · refine ⟨w + 1, eX _ ?_⟩
      have hcl := pi_le (nI m) w w
      have hbl := ep_le (nI m) w w
      by_cases hD : pi_c (nI m) w w = 0
      · refine br_t (by rw [hD]; decide) (br_t rfl (yp _ ⟨w + 1, eY _ (br_t hww (br_t (by rw [hD]; rfl) ⟨rfl, I0⟩))⟩))
      · have hD0 : ¬ nI (pi_c (nI m) w w) = 0 := nI_ne0 (by omega) (by omega)
        refine br_f (nI_nle (by omega) (by omega)) (br_f (by decide) (xn_lie (by omega) (fun j a T C => br_f (by decide) ?_) (fun C => br_t rfl ?_)))
        · have C0 := C
          obtain ⟨rfl, hj, rfl, rfl, hT1, hT2, hl⟩ := C
          have v12 : vp_in (nI j) 12 := vp_in_nI hj (by decide)
          have cj : (nI j).toNatClampNeg = j := nI_clamp (by omega)
          refine xn_lay hj ⟨v12, ?_⟩
          rw [cj]
          refine nm_r pk_uu (br_t rfl ⟨w + 1, xp_L (g := fun _ => true) (q := pi_c (nI m) w) hw8 (fun i hi => hz i (by omega) hi) (fun i => rfl) (fun i h4 _ => pi_cs h4) (fun i h4 => pi_cn (fun z => h4 ⟨z, rfl⟩)) ?_ w 0 _ _ _ (by omega) rfl rfl rfl⟩)
          refine ⟨v12, nm_r pk_uu (br_f (by decide) ⟨w + 1, xp_L (g := ep_pt (nI m) w) (q := ep_b (nI m) w) hw8 (fun i hi => hz i (by omega) hi) (fun i => rfl) (fun i h4 hg => ?_) (fun i h4 => ?_) ?_ w 0 _ _ _ (by omega) rfl rfl rfl⟩)⟩
          · show ep_b (nI m) w i + (if pi_s (nI m) w i < 4 ∧ ep_pt (nI m) w (i + 1) = true then 1 else 0) = _
            rw [if_pos ⟨h4, hg⟩]
          · show ep_b (nI m) w i + (if pi_s (nI m) w i < 4 ∧ ep_pt (nI m) w (i + 1) = true then 1 else 0) = _
            rw [if_neg h4, Nat.add_zero]
          · refine ⟨v12, nm_r pk_uu (yp _ ⟨w + 1, eY _ (br_t hww (br_f hD0 ?_))⟩)⟩
            refine yn_lie (by omega) (fun j' a' T' C' => br_f (by decide) ?_) (fun h => absurd ⟨j, a, T, C0⟩ h)
            obtain ⟨b1, b2, b3, b4, b5, b6, b7⟩ := C'
            rw [nI_eq (by omega) (by omega)] at b1
            subst b1
            refine yn_make hj ⟨w + 1, yw_sgL hj hw8 ?_ w 0 _ _ (by omega) rfl (sg_0 _ _ _ _).symm⟩
            refine ⟨rfl, ⟨rfl, rfl, rfl, rfl, rfl, rfl, rfl, rfl, rfl, rfl, rfl, rfl, rfl, rfl, rfl, rfl, rfl⟩, ok, it_set hA (j := j) (fun i hi => ⟨⟨pk_un hi, pk_un hi, pk_un hi, pk_un hi, pk_un hi, pk_un hi, pk_un hi, pk_un hi, pk_un hi, rfl⟩, fun k hk => if_neg (by omega)⟩) ⟨3, a, w, T, pi_c (nI m) w w, ep_b (nI m) w w, 0, w, ⟨pk_us, pk_us, pk_us, pk_us, pk_us, pk_us, pk_us, pk_us⟩, ⟨by omega, by omega, hT1, hT2, hw1, by omega, by omega, hl, by omega, by omega, by omega⟩, fun h => absurd h (by decide), fun _ => rfl, fun _ => ⟨hw8, ?_, by omega, fun k hk => ?_⟩⟩, ⟨n, hn, rfl, ho, fun h => absurd h (by decide)⟩, Or.inl rfl, hsz⟩
            · rw [pk_us]
            · rw [pk_us, sg_in _ _ _ _ _ (Nat.zero_le _) hk]
              exact ⟨rfl, hz k (by omega) hk⟩
        · exact yp _ ⟨w + 1, eY _ (br_t hww (br_f hD0 (yn_lie (by omega) (fun j' a' T' C' => absurd ⟨j', a', T', C'⟩ C) (fun _ => br_t rfl ⟨rfl, I0⟩))))⟩
  · have hno : ¬ (¬ v3 < 1 ∧ ¬ 16777215 < v3) := fun h => hv ((gn_in (lo := 1) (hi := 16777215) (by decide) (by decide)).mpr h)
    have hy : wpY_edited (fun r' v' => r' = 0 ∧ iv_R (nI n, ck', fp', pg, ob, hr, sp', ix', sz', pf, sc', st', kd', pl', wd, tm', dg, dc', ss, pc, op', ox', oy', oz', ps, jp, oi, pa, pt, sh', lc, rc, dr) v') (nI n, fp', ck', pf', hr', sp', ix', sc', ye, sz', yj, st', kd', pl', ln, dc', tm', sn, sd, op', ox', oy', oz', sh', ch, oth, lw, hg, le, bk, fm, vy) v1 v2 v3 v4 := by
      refine br_c (fun _ => ⟨rfl, I0⟩) (fun a => br_f (fun b => hno ⟨a, Int32.not_lt.mpr b⟩) ⟨rfl, I0⟩)
    by_cases h0 : v3 ≤ 0
    · refine ⟨1, br_f (by decide) (br_t h0 ?_)⟩
      exact br_c (fun _ => ⟨1, br_t (by decide) (br_t (by decide) (br_t rfl hy))⟩) (fun _ => ⟨1, br_t (by decide) (br_t (by decide) (br_t rfl hy))⟩)
    · have hn0 : ¬ v3 < 0 := fun z => h0 (Int32.le_of_lt z)
      obtain ⟨m, hm, rfl⟩ := nI_of hn0
      have hm0 : m ≠ 0 := fun z => h0 (by subst z; decide)
      have hbig : 16777216 ≤ m := by
        refine Nat.le_of_not_lt fun z => hv ⟨m, by omega, by omega, rfl⟩
      refine ⟨9, xw_cntB hm (fun i hi => ?_) ?_ 8 0 _ _ _ (by omega) (by rw [Nat.pow_zero, Nat.div_one]) rfl⟩
      · have h8 : 8 ^ i ≤ 8 ^ 8 := Nat.pow_le_pow_right (by decide) hi
        rw [show 8 ^ 8 = 16777216 from by decide] at h8
        have := (Nat.div_pos (show 8 ^ i ≤ m by omega) (Nat.pow_pos (by decide)))
        omega
      · exact ⟨1, br_t (by decide) (br_t (by decide) (br_t rfl hy))⟩
end
section
/-! what is owed -/
def i_Rel (_ : Nat) (u : SX) (v : SY) : Prop := iv_R u v
theorem i_up {k : Nat} {u : SX} {v : SY} (h : i_Rel k u v) : i_Rel (k + 7) u v := h
theorem i_vc0 : wpX_init (fun u => wpY_init (fun v => i_Rel 0 u v)) := iv_0
theorem i_vc_number {k : Nat} {u : SX} {v : SY} (I : i_Rel k u v) (hk : k + 7 ≤ 3584) (v1 : Int32) (v2 : Int32) (v3 : Int32) (v4 : Int32) (v5 : Int32) (v6 : Int32) : wpX_number (fun r u' => wpY_number (fun r' v' => r' = r ∧ i_Rel (k + 7) u' v') v v1 v2 v3 v4 (lw_bz v5) v6) u v1 v2 v3 v4 (lw_bz v5) v6 := iv_number I v1 v2 v3 v4 v5 v6
theorem i_vc_text {k : Nat} {u : SX} {v : SY} (I : i_Rel k u v) (hk : k + 7 ≤ 3584) (v1 : Int32) (v2 : Int32) (v3 : Int32) (v4 : Int32) : wpX_text (fun r u' => wpY_text (fun r' v' => r' = r ∧ i_Rel (k + 7) u' v') v v1 v2 v3 v4) u v1 v2 v3 v4 := iv_text I v1 v2 v3 v4
theorem i_vc_edited {k : Nat} {u : SX} {v : SY} (I : i_Rel k u v) (hk : k + 7 ≤ 3584) (v1 : Int32) (v2 : Int32) (v3 : Int32) (v4 : Int32) : wpX_edited (fun r u' => wpY_edited (fun r' v' => r' = r ∧ i_Rel (k + 7) u' v') v v1 v2 v3 v4) u v1 v2 v3 v4 := iv_edited I v1 v2 v3 v4
theorem i_vc_poke {k : Nat} {u : SX} {v : SY} (I : i_Rel k u v) (hk : k + 7 ≤ 3584) (v1 : Int32) (v2 : Int32) : wpX_poke (fun r u' => wpY_poke (fun r' v' => r' = r ∧ i_Rel (k + 7) u' v') v v1 v2) u v1 v2 := iv_poke I v1 v2
theorem i_vc_add {k : Nat} {u : SX} {v : SY} (I : i_Rel k u v) (hk : k + 7 ≤ 3584) (v1 : Int32) (v2 : Int32) (v3 : Int32) (v4 : Int32) : wpX_add (fun r u' => wpY_add (fun r' v' => r' = r ∧ i_Rel (k + 7) u' v') v v1 v2 v3 v4) u v1 v2 v3 v4 := iv_add I v1 v2 v3 v4
theorem i_vc_drop {k : Nat} {u : SX} {v : SY} (I : i_Rel k u v) (hk : k + 7 ≤ 3584) : wpX_drop (fun r u' => wpY_drop (fun r' v' => r' = r ∧ i_Rel (k + 7) u' v') v) u := iv_drop I
theorem i_vc_check {k : Nat} {u : SX} {v : SY} (I : i_Rel k u v) (hk : k + 7 ≤ 3584) : wpX_check (fun r u' => wpY_check (fun r' v' => r' = r ∧ i_Rel (k + 7) u' v') v) u := iv_check I
theorem i_vc_place {k : Nat} {u : SX} {v : SY} (I : i_Rel k u v) (hk : k + 7 ≤ 3584) : wpX_place (fun r => wpY_place (fun r' => r' = r ∧ i_Rel (k + 7) u v) v) u := iv_place I
theorem i_vc_run {k : Nat} {u : SX} {v : SY} (I : i_Rel k u v) (hk : k + 7 ≤ 3584) : wpX_run (fun r u' => wpY_run (fun r' v' => r' = r ∧ i_Rel (k + 7) u' v') v) u := iv_run I
theorem i_vc_steps {k : Nat} {u : SX} {v : SY} (I : i_Rel k u v) (hk : k + 7 ≤ 3584) : wpX_steps (fun r => wpY_steps (fun r' => r' = r ∧ i_Rel (k + 7) u v) v) u := iv_steps I
theorem i_vc_index {k : Nat} {u : SX} {v : SY} (I : i_Rel k u v) (hk : k + 7 ≤ 3584) : wpX_index (fun r => wpY_index (fun r' => r' = r ∧ i_Rel (k + 7) u v) v) u := iv_index I
theorem i_vc_size {k : Nat} {u : SX} {v : SY} (I : i_Rel k u v) (hk : k + 7 ≤ 3584) : wpX_size (fun r => wpY_size (fun r' => r' = r ∧ i_Rel (k + 7) u v) v) u := iv_size I
theorem i_vc_peek {k : Nat} {u : SX} {v : SY} (I : i_Rel k u v) (hk : k + 7 ≤ 3584) (v1 : Int32) : wpX_peek (fun r => wpY_peek (fun r' => r' = r ∧ i_Rel (k + 7) u v) v v1) u v1 := iv_peek I v1
theorem i_vc_value {k : Nat} {u : SX} {v : SY} (I : i_Rel k u v) (hk : k + 7 ≤ 3584) (v1 : Int32) (v2 : Int32) : wpX_value (fun r => wpY_value (fun r' => r' = r ∧ i_Rel (k + 7) u v) v v1 v2) u v1 v2 := iv_value I v1 v2
theorem i_vc_output {k : Nat} {u : SX} {v : SY} (I : i_Rel k u v) (hk : k + 7 ≤ 3584) (v1 : Int32) : wpX_output (fun r => wpY_output (fun r' => r' = r ∧ i_Rel (k + 7) u v) v v1) u v1 := iv_output I v1
theorem i_vc_displayed {k : Nat} {u : SX} {v : SY} (I : i_Rel k u v) (hk : k + 7 ≤ 3584) : wpX_displayed (fun r => wpY_displayed (fun r' => r' = r ∧ i_Rel (k + 7) u v) v) u := iv_displayed I
end
