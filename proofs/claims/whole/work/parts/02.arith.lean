/-! numbers: Int64 by integers, digits, rounding, runs of stores, paragraph counts, the walk of partner -/
def ar_l (a : Int) : Int64 := Int64.ofInt a
def ar_B (a : Int) : Prop := -9223372036854775808 ≤ a ∧ a ≤ 9223372036854775807
def ar_s : Bool → Nat → Int
  | true, m => -(m : Int)
  | false, m => (m : Int)
theorem ar_add (a b : Int) : ar_l a + ar_l b = ar_l (a + b) := (Int64.ofInt_add a b).symm
theorem ar_sub (a b : Int) : ar_l a - ar_l b = ar_l (a - b) := (Int64.ofInt_sub a b).symm
theorem ar_mul (a b : Int) : ar_l a * ar_l b = ar_l (a * b) := (Int64.ofInt_mul a b).symm
theorem ar_neg (a : Int) : -ar_l a = ar_l (-a) := (Int64.ofInt_neg a).symm
theorem ar_toInt {a : Int} (h : ar_B a) : (ar_l a).toInt = a :=
  Int64.toInt_ofInt_of_le (Int.le_trans (by decide) h.1) (Int.lt_of_le_of_lt h.2 (by decide))
theorem ar_lt {a b : Int} (ha : ar_B a) (hb : ar_B b) : ar_l a < ar_l b ↔ a < b := by
  rw [Int64.lt_iff_toInt_lt, ar_toInt ha, ar_toInt hb]
theorem ar_le {a b : Int} (ha : ar_B a) (hb : ar_B b) : ar_l a ≤ ar_l b ↔ a ≤ b := by
  rw [Int64.le_iff_toInt_le, ar_toInt ha, ar_toInt hb]
theorem ar_eq {a b : Int} (ha : ar_B a) (hb : ar_B b) : ar_l a = ar_l b ↔ a = b := by
  rw [← Int64.toInt_inj, ar_toInt ha, ar_toInt hb]
theorem ar_div {a b : Int} (ha : ar_B a) (hb : ar_B b) : ar_l a / ar_l b = ar_l (a.tdiv b) :=
  (Int64.ofInt_tdiv (by rw [Int64.toInt_minValue]; exact Int.le_trans (by decide) ha.1) (by rw [Int64.toInt_maxValue]; exact Int.le_trans ha.2 (by decide))
    (by rw [Int64.toInt_minValue]; exact Int.le_trans (by decide) hb.1) (by rw [Int64.toInt_maxValue]; exact Int.le_trans hb.2 (by decide))).symm
theorem ar_rem {a b : Int} (ha : ar_B a) (hb : ar_B b) : ar_l a - ar_l a / ar_l b * ar_l b = ar_l (a.tmod b) := by
  rw [ar_div ha hb, ar_mul, ar_sub, Int.tmod_def, Int.mul_comm]
theorem ar_N (n : Nat) : lN n = ar_l (n : Int) := Int64.ofInt_eq_ofNat.symm
theorem ar_z (z : Int32) : z.toInt64 = ar_l z.toInt := rfl
theorem ar_i (a : Int) : (ar_l a).toInt32 = Int32.ofInt a := Int64.toInt32_ofInt
theorem ar_0 : (0 : Int64) = ar_l 0 := by decide
theorem ar_1 : (1 : Int64) = ar_l 1 := by decide
theorem ar_5 : (5 : Int64) = ar_l 5 := by decide
theorem ar_10 : (10 : Int64) = ar_l 10 := by decide
theorem ar_e9 : (1000000000 : Int64) = ar_l 1000000000 := by decide
theorem ar_2 : (2 : Int64) = ar_l 2 := by decide
theorem ar_sB {s : Bool} {m : Nat} (h : m < 9223372036854775808) : ar_B (ar_s s m) := by
  cases s
  · exact ⟨by show _ ≤ (m : Int); omega, by show (m : Int) ≤ _; omega⟩
  · exact ⟨by show _ ≤ -(m : Int); omega, by show -(m : Int) ≤ _; omega⟩
theorem ar_nB {m : Nat} (h : m < 9223372036854775808) : ar_B (m : Int) := ar_sB (s := false) h
theorem ar_B0 : ar_B 0 := ⟨by decide, by decide⟩
theorem ar_td (s : Bool) (m n : Nat) : (ar_s s m).tdiv (n : Int) = ar_s s (m / n) := by
  cases s
  · exact (Int.ofNat_tdiv m n).symm
  · show (-(m : Int)).tdiv (n : Int) = -((m / n : Nat) : Int)
    rw [Int.neg_tdiv, Int.ofNat_tdiv]
theorem ar_tm (s : Bool) (m n : Nat) : (ar_s s m).tmod (n : Int) = ar_s s (m % n) := by
  cases s
  · exact (Int.ofNat_tmod m n).symm
  · show (-(m : Int)).tmod (n : Int) = -((m % n : Nat) : Int)
    rw [Int.neg_tmod, Int.ofNat_tmod]
theorem ar_ms (s : Bool) (m n : Nat) : ar_s s m * (n : Int) = ar_s s (m * n) := by
  cases s
  · exact (Int.natCast_mul m n).symm
  · show -(m : Int) * (n : Int) = -((m * n : Nat) : Int)
    rw [Int.neg_mul, Int.natCast_mul]
theorem ar_s0 (s : Bool) : ar_s s 0 = 0 := by cases s <;> rfl
theorem ar_ngs (s : Bool) (m : Nat) : -ar_s s m = ar_s (!s) m := by
  cases s
  · rfl
  · exact Int.neg_neg _
theorem ar_neg0 (s : Bool) (m : Nat) : ar_s s m < 0 ↔ (s = true ∧ 0 < m) := by
  cases s
  · exact ⟨fun h => absurd h (by show ¬ (m : Int) < 0; omega), fun h => absurd h.1 (by decide)⟩
  · exact ⟨fun h => ⟨rfl, by have : -(m : Int) < 0 := h; omega⟩, fun h => by show -(m : Int) < 0; have := h.2; omega⟩
theorem ar_ex (a : Int) : ∃ (s : Bool) (m : Nat), a = ar_s s m ∧ m = a.natAbs ∧ (s = true ↔ a < 0) := by
  by_cases h : a < 0
  · exact ⟨true, a.natAbs, by show a = -((a.natAbs : Nat) : Int); omega, rfl, ⟨fun _ => h, fun _ => rfl⟩⟩
  · exact ⟨false, a.natAbs, by show a = ((a.natAbs : Nat) : Int); omega, rfl, ⟨fun z => absurd z (by decide), fun z => absurd z h⟩⟩
theorem ar_lts (s : Bool) {m : Nat} (h : m < 9223372036854775808) : ar_l (ar_s s m) < 0 ↔ (s = true ∧ 0 < m) := by
  rw [ar_0, ar_lt (ar_sB h) ar_B0, ar_neg0]
theorem ar_zB (z : Int32) : -2147483648 ≤ z.toInt ∧ z.toInt < 2147483648 := ⟨Int32.le_toInt z, Int32.toInt_lt z⟩
theorem ar_pp (d : Nat) : 0 < 10 ^ d := Nat.pow_pos (by decide)
theorem ar_ple {d e : Nat} (h : d ≤ e) : 10 ^ d ≤ 10 ^ e := Nat.pow_le_pow_right (by decide) h
/-! rounding -/
def rd_q (m b : Nat) (r : Bool) : Nat := if r = true ∧ b ≤ 2 * (m % b) then m / b + 1 else m / b
def rd_x (m d : Nat) (r : Bool) : Nat := if r = true ∧ 0 < d then (m / 10 ^ (d - 1) + 5) / 10 else m / 10 ^ d
theorem rd_eq (m d : Nat) (r : Bool) : rd_x m d r = rd_q m (10 ^ d) r := by
  unfold rd_x rd_q
  cases d with
  | zero =>
    rw [if_neg (by omega)]
    rw [Nat.pow_zero, Nat.mod_one, if_neg (by omega)]
  | succ e =>
    cases r with
    | false => rw [if_neg (by simp), if_neg (by simp)]
    | true =>
      rw [if_pos ⟨rfl, by omega⟩, Nat.add_sub_cancel, Nat.pow_succ]
      have hb : 0 < 10 ^ e := ar_pp e
      generalize 10 ^ e = b at hb
      rw [← Nat.div_div_eq_div_mul, Nat.mod_mul]
      have h1 : m % b < b := Nat.mod_lt _ hb
      have h2 : m / b % 10 < 10 := Nat.mod_lt _ (by decide)
      by_cases h5 : 5 ≤ m / b % 10
      · have := Nat.mul_le_mul_left b h5
        rw [if_pos ⟨rfl, by omega⟩]
        omega
      · have : b * (m / b % 10) ≤ b * 4 := Nat.mul_le_mul_left b (by omega)
        rw [if_neg (fun z => by have := z.2; omega)]
        omega
/-! digits: digit k (from the right) of an item with 'wants' decimals, of a value with 'has' decimals and magnitude m -/
def dg_d (m has wants k : Nat) : Nat := if k + has < wants then 0 else m / 10 ^ (k + has - wants) % 10
def dg_N (m has wants : Nat) : Nat := if has ≤ wants then m * 10 ^ (wants - has) else m / 10 ^ (has - wants)
theorem dg_lt (m has wants k : Nat) : dg_d m has wants k < 10 := by
  unfold dg_d
  by_cases h : k + has < wants
  · rw [if_pos h]; decide
  · rw [if_neg h]; exact Nat.mod_lt _ (by decide)
theorem dg_Nd (m has wants k : Nat) : dg_N m has wants / 10 ^ k % 10 = dg_d m has wants k := by
  unfold dg_N dg_d
  by_cases h : has ≤ wants
  · rw [if_pos h]
    by_cases hk : k + has < wants
    · rw [if_pos hk]
      obtain ⟨c, hc⟩ : ∃ c, wants - has = (c + 1) + k := ⟨wants - has - k - 1, by omega⟩
      rw [hc, Nat.pow_add, ← Nat.mul_assoc, Nat.mul_div_cancel _ (ar_pp k), Nat.pow_succ, ← Nat.mul_assoc, Nat.mul_mod_left]
    · rw [if_neg hk]
      obtain ⟨c, hc⟩ : ∃ c, k = c + (wants - has) := ⟨k - (wants - has), by omega⟩
      have e : k + has - wants = c := by omega
      rw [e]
      generalize wants - has = w at hc
      subst hc
      rw [Nat.pow_add, Nat.mul_div_mul_right _ _ (ar_pp w)]
  · rw [if_neg h, if_neg (by omega), Nat.div_div_eq_div_mul, ← Nat.pow_add]
    congr 3
    omega
theorem dg_mod (N D k : Nat) (h : k < D) : N % 10 ^ D / 10 ^ k % 10 = N / 10 ^ k % 10 := by
  obtain ⟨c, hc⟩ : ∃ c, D = k + (c + 1) := ⟨D - k - 1, by omega⟩
  rw [hc, Nat.pow_add, Nat.mod_mul_right_div_self]
  exact Nat.mod_mod_of_dvd _ (by rw [Nat.pow_succ]; exact Nat.dvd_mul_left 10 (10 ^ c))
theorem dg_zero : ∀ (D S : Nat), S < 10 ^ D → (∀ k, k < D → S / 10 ^ k % 10 = 0) → S = 0
  | 0, S, h, _ => by rw [Nat.pow_zero] at h; omega
  | D + 1, S, h, hd => by
    have h0 := hd 0 (by omega)
    rw [Nat.pow_zero, Nat.div_one] at h0
    have h1 : S / 10 = 0 := dg_zero D (S / 10) (by rw [Nat.pow_succ] at h; omega) (fun k hk => by
      have := hd (k + 1) (by omega)
      rw [Nat.pow_succ, Nat.mul_comm, ← Nat.div_div_eq_div_mul] at this
      exact this)
    omega
theorem dg_nz (m has wants D : Nat) : dg_N m has wants % 10 ^ D ≠ 0 ↔ ∃ k, k < D ∧ dg_d m has wants k ≠ 0 := by
  constructor
  · intro h
    refine Classical.byContradiction fun hn => h ?_
    refine dg_zero D _ (Nat.mod_lt _ (ar_pp D)) fun k hk => ?_
    rw [dg_mod _ _ _ hk, dg_Nd]
    exact Classical.byContradiction fun z => hn ⟨k, hk, z⟩
  · intro ⟨k, hk, hz⟩ h
    apply hz
    rw [← dg_Nd, ← dg_mod _ D _ hk, h, Nat.zero_div]
/-! runs of stores -/
def sg_put (st : Nat → Int32) (p lo hi : Nat) (f : Nat → Int32) : Nat → Int32 := fun j => if p + lo ≤ j ∧ j < p + hi then f (j - p) else st j
theorem sg_0 (st : Nat → Int32) (p a : Nat) (f : Nat → Int32) : sg_put st p a a f = st := by
  funext j
  exact if_neg (by omega)
theorem sg_up (st : Nat → Int32) (p lo hi : Nat) (f : Nat → Int32) (h : lo ≤ hi) : upd (sg_put st p lo hi f) (p + hi) (f hi) = sg_put st p lo (hi + 1) f := by
  funext j
  simp only [upd, sg_put]
  by_cases e : j = p + hi
  · subst e
    rw [if_pos rfl, if_pos (by omega), Nat.add_sub_cancel_left]
  · rw [if_neg e]
    by_cases c : p + lo ≤ j ∧ j < p + hi
    · rw [if_pos c, if_pos (by omega)]
    · rw [if_neg c, if_neg (by omega)]
theorem sg_dn (st : Nat → Int32) (p lo hi : Nat) (f : Nat → Int32) (h : lo < hi) : upd (sg_put st p (lo + 1) hi f) (p + lo) (f lo) = sg_put st p lo hi f := by
  funext j
  simp only [upd, sg_put]
  by_cases e : j = p + lo
  · subst e
    rw [if_pos rfl, if_pos (by omega), Nat.add_sub_cancel_left]
  · rw [if_neg e]
    by_cases c : p + (lo + 1) ≤ j ∧ j < p + hi
    · rw [if_pos c, if_pos (by omega)]
    · rw [if_neg c, if_neg (by omega)]
theorem sg_in (st : Nat → Int32) (p lo hi : Nat) (f : Nat → Int32) {i : Nat} (h : lo ≤ i) (h2 : i < hi) : sg_put st p lo hi f (p + i) = f i := by
  unfold sg_put
  rw [if_pos (by omega), Nat.add_sub_cancel_left]
theorem sg_in0 (st : Nat → Int32) (lo hi : Nat) (f : Nat → Int32) {i : Nat} (h : lo ≤ i) (h2 : i < hi) : sg_put st 0 lo hi f i = f i := by
  have := sg_in st 0 lo hi f h h2
  rwa [Nat.zero_add] at this
theorem sg_cg (st : Nat → Int32) (p lo hi : Nat) {f g : Nat → Int32} (h : ∀ i, lo ≤ i → i < hi → f i = g i) : sg_put st p lo hi f = sg_put st p lo hi g := by
  funext j
  unfold sg_put
  by_cases c : p + lo ≤ j ∧ j < p + hi
  · rw [if_pos c, if_pos c]; exact h _ (by omega) (by omega)
  · rw [if_neg c, if_neg c]
/-! values: the digits' sum as valueAt reckons it, from place p on over n places; sort 1 keeps a place for what is no digit -/
def vs_f (K : Nat) (st : Nat → Int32) (p : Nat) : Nat → Nat
  | 0 => 0
  | n + 1 => if st (p + n) ≤ 9 then (vs_f K st p n * 10 + (st (p + n)).toNatClampNeg) % 1000000000 else if K = 1 then vs_f K st p n * 10 else vs_f K st p n
def st_ok (st : Nat → Int32) : Prop := ∀ j, ¬ st j < 0
theorem vs_c9 {c : Int32} (h : c ≤ 9) : c.toNatClampNeg ≤ 9 := by
  by_cases h0 : c < 0
  · have : c.toInt < 0 := by
      have := Int32.lt_iff_toInt_lt.mp h0
      rwa [show (0 : Int32).toInt = 0 from by decide] at this
    show c.toInt.toNat ≤ 9
    omega
  · obtain ⟨j, hj, rfl⟩ := nI_of h0
    rw [nI_clamp hj]
    exact (nI_leI (b := 9) hj (by decide)).mp h
theorem vs_lt1 (st : Nat → Int32) (p : Nat) : ∀ n, vs_f 1 st p n < 10 ^ n
  | 0 => Nat.zero_lt_one
  | n + 1 => by
    have ih := vs_lt1 st p n
    unfold vs_f
    rw [Nat.pow_succ]
    by_cases h : st (p + n) ≤ 9
    · rw [if_pos h]
      have := vs_c9 h
      exact Nat.lt_of_le_of_lt (Nat.mod_le _ _) (by omega)
    · rw [if_neg h, if_pos rfl]
      omega
theorem vs_lt2 {K : Nat} (hK : K ≠ 1) (st : Nat → Int32) (p : Nat) : ∀ n, vs_f K st p n < 1000000000
  | 0 => show 0 < 1000000000 by decide
  | n + 1 => by
    have ih := vs_lt2 hK st p n
    unfold vs_f
    by_cases h : st (p + n) ≤ 9
    · rw [if_pos h]
      exact Nat.mod_lt _ (by decide)
    · rw [if_neg h, if_neg hK]
      exact ih
theorem vs_lt {K : Nat} (st : Nat → Int32) (p n : Nat) (h : K = 1 → n ≤ 9) : vs_f K st p n < 1000000000 := by
  by_cases hK : K = 1
  · subst hK
    exact Nat.lt_of_lt_of_le (vs_lt1 st p n) (Nat.pow_le_pow_right (n := 10) (by decide) (h rfl))
  · exact vs_lt2 hK st p n
/-! is there a minus among n places from p on -/
def vs_m (st : Nat → Int32) (p : Nat) : Nat → Bool
  | 0 => false
  | n + 1 => decide (st (p + n) = 11) || vs_m st p n
/-! paragraphs: how many begin ahead of k -/
def tb_z (op : Nat → Int32) : Nat → Nat
  | 0 => 0
  | k + 1 => tb_z op k + (if op k = 0 then 1 else 0)
theorem tb_zs {op : Nat → Int32} {k : Nat} (h : op k = 0) : tb_z op (k + 1) = tb_z op k + 1 := by
  show tb_z op k + (if op k = 0 then 1 else 0) = _
  rw [if_pos h]
theorem tb_zn {op : Nat → Int32} {k : Nat} (h : ¬ op k = 0) : tb_z op (k + 1) = tb_z op k := by
  show tb_z op k + (if op k = 0 then 1 else 0) = _
  rw [if_neg h, Nat.add_zero]
theorem tb_s (op : Nat → Int32) (k : Nat) : tb_z op k ≤ tb_z op (k + 1) ∧ tb_z op (k + 1) ≤ tb_z op k + 1 := by
  by_cases h : op k = 0
  · rw [tb_zs h]; omega
  · rw [tb_zn h]; omega
theorem tb_mono (op : Nat → Int32) {i j : Nat} (h : i ≤ j) : tb_z op i ≤ tb_z op j := by
  induction h with
  | refl => exact Nat.le_refl _
  | step _ ih => exact Nat.le_trans ih (tb_s op _).1
theorem tb_le (op : Nat → Int32) : ∀ k, tb_z op k ≤ k
  | 0 => Nat.le_refl _
  | k + 1 => by have := tb_le op k; have := (tb_s op k).2; omega
theorem tb_find (op : Nat → Int32) (p : Nat) : ∀ n, p < tb_z op n → ∃ k, k < n ∧ op k = 0 ∧ tb_z op k = p
  | 0, h => absurd h (by show ¬ p < 0; omega)
  | n + 1, h => by
    by_cases hp : p < tb_z op n
    · obtain ⟨k, h1, h2, h3⟩ := tb_find op p n hp
      exact ⟨k, by omega, h2, h3⟩
    · by_cases ho : op n = 0
      · rw [tb_zs ho] at h
        exact ⟨n, by omega, ho, by omega⟩
      · rw [tb_zn ho] at h
        exact absurd h hp
def tb_P (op : Nat → Int32) (n : Nat) (ps : Nat → Int32) : Prop := (∀ j, j < n → op j = 0 → ps (tb_z op j) = nI j) ∧ ps (tb_z op n) = nI n
/-! the walk of partner: depth d at instruction k -/
def pw_i (o : Int32) : Prop := o = 10 ∨ o = 11 ∨ o = 12
def pw_st (d : Nat) (o : Int32) : Prop := d = 0 ∧ (o = 13 ∨ o = 14)
noncomputable def pw_d (d : Nat) (o : Int32) : Nat := @ite Nat (pw_i o) (Classical.propDecidable _) (d + 1) (if o = 14 then d - 1 else d)
theorem pw_di {d : Nat} {o : Int32} (h : pw_i o) : pw_d d o = d + 1 := if_pos h
theorem pw_d14 {d : Nat} : pw_d d 14 = d - 1 := by
  unfold pw_d
  rw [if_neg (by unfold pw_i; decide), if_pos rfl]
theorem pw_dn {d : Nat} {o : Int32} (h : ¬ pw_i o) (h2 : o ≠ 14) : pw_d d o = d := by
  unfold pw_d
  rw [if_neg h, if_neg h2]
def pw_W (op : Nat → Int32) : Nat → Nat → Nat → Nat → Prop
  | 0, d, _, d' => d' = d
  | l + 1, d, k, d' => ¬ pw_st d (op k) ∧ pw_W op l (pw_d d (op k)) (k + 1) d'
theorem pw_sn (op : Nat → Int32) : ∀ (l d k d' : Nat), pw_W op l d k d' → ¬ pw_st d' (op (k + l)) → pw_W op (l + 1) d k (pw_d d' (op (k + l)))
  | 0, d, k, d', h, hs => by
    have h : d' = d := h
    subst h
    exact ⟨hs, rfl⟩
  | l + 1, d, k, d', h, hs => by
    refine ⟨h.1, ?_⟩
    have e : k + (l + 1) = k + 1 + l := by omega
    rw [e] at hs ⊢
    exact pw_sn op l _ (k + 1) d' h.2 hs
/-! j's partner is e: the walk from behind j comes to e at depth 0, an ELSE or an END -/
def pw_P (op : Nat → Int32) (j e : Nat) : Prop := ∃ l, e = j + 1 + l ∧ pw_W op l 0 (j + 1) 0 ∧ (op e = 13 ∨ op e = 14)
/-! comparing at the same number of decimals, be it the greater of both or nine -/
theorem cm_sc {a b : Int} {da db m : Nat} (ha : da ≤ m) (hb : db ≤ m) (hm : m ≤ 9) : a * ((10 ^ (9 - da) : Nat) : Int) < b * ((10 ^ (9 - db) : Nat) : Int) ↔ a * ((10 ^ (m - da) : Nat) : Int) < b * ((10 ^ (m - db) : Nat) : Int) := by
  rw [show 9 - da = (m - da) + (9 - m) from by omega, show 9 - db = (m - db) + (9 - m) from by omega, Nat.pow_add, Nat.pow_add, Int.natCast_mul, Int.natCast_mul, ← Int.mul_assoc, ← Int.mul_assoc]
  exact ⟨fun h => Int.lt_of_mul_lt_mul_right h (Int.natCast_nonneg _), fun h => Int.mul_lt_mul_of_pos_right h (Int.natCast_pos.mpr (ar_pp _))⟩
/-! how many characters of n are c -/
def tl_c (st : Nat → Int32) (F : Nat) (c : Int32) : Nat → Nat
  | 0 => 0
  | n + 1 => tl_c st F c n + (if st (F + n) = c then 1 else 0)
theorem tl_le (st : Nat → Int32) (F : Nat) (c : Int32) : ∀ n, tl_c st F c n ≤ n
  | 0 => Nat.le_refl _
  | n + 1 => by
    have := tl_le st F c n
    show tl_c st F c n + (if st (F + n) = c then 1 else 0) ≤ n + 1
    split <;> omega
theorem tl_s {st : Nat → Int32} {F n : Nat} {c : Int32} (h : st (F + n) = c) : tl_c st F c (n + 1) = tl_c st F c n + 1 := by
  show tl_c st F c n + (if st (F + n) = c then 1 else 0) = _
  rw [if_pos h]
theorem tl_n {st : Nat → Int32} {F n : Nat} {c : Int32} (h : ¬ st (F + n) = c) : tl_c st F c (n + 1) = tl_c st F c n := by
  show tl_c st F c n + (if st (F + n) = c then 1 else 0) = _
  rw [if_neg h, Nat.add_zero]
/-! how many digits m has -/
def nd_P (m n : Nat) : Prop := 1 ≤ n ∧ n ≤ 10 ∧ m / 10 ^ n = 0 ∧ ∀ j, 1 ≤ j → j < n → ¬ m / 10 ^ j = 0
theorem nd_ex {m : Nat} (h : m < 10000000000) : ∃ n, nd_P m n := by
  obtain ⟨n, ⟨h1, h2⟩, h3⟩ := pk_least (fun n => 1 ≤ n ∧ m / 10 ^ n = 0) ⟨10, by decide, Nat.div_eq_of_lt (by rw [show 10 ^ 10 = 10000000000 from by decide]; exact h)⟩
  refine ⟨n, h1, ?_, h2, fun j hj hn z => h3 j hn ⟨hj, z⟩⟩
  refine Nat.le_of_not_lt fun hn => h3 10 hn ⟨by decide, Nat.div_eq_of_lt (by rw [show 10 ^ 10 = 10000000000 from by decide]; exact h)⟩
/-- the characters of z's digits -/
def nd_t (m n i : Nat) : Int32 := if i < n then nI (m / 10 ^ (n - 1 - i) % 10) else 10
/-- the characters of an item without its sign: n of them from place p on -/
def tx_c (st : Nat → Int32) (p n i : Nat) : Int32 := if i < n then st (p + i) else 10
/-! the value of what lies at F: W places, S of them (0 or 1) for the sign, of sort K -/
def vl_s (st : Nat → Int32) (K F W S : Nat) : Bool := (decide (S = 1) && decide (st F = 11)) || (decide (K = 3) && vs_m st F W)
def vl_m (st : Nat → Int32) (K F W S : Nat) : Nat := vs_f K st (F + S) (W - S)
def vl_v (st : Nat → Int32) (K F W S : Nat) : Int := ar_s (vl_s st K F W S) (vl_m st K F W S)
theorem vl_lt (st : Nat → Int32) (K F W S : Nat) (h : K = 1 → W - S ≤ 9) : vl_m st K F W S < 1000000000 := vs_lt st _ _ h
