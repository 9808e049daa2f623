/-! the walks of exact arithmetic: tenTo, ten, lengthened, shortened, quotient, digit -/
theorem ar_p10 (i : Nat) : ar_l ((10 ^ i : Nat) : Int) * 10 = ar_l ((10 ^ (i + 1) : Nat) : Int) := by
  rw [ar_10, ar_mul, Nat.pow_succ, Int.natCast_mul]
  rfl
theorem ar_le0 {a : Int} (h : ar_B a) : (0 : Int64) ≤ ar_l a ↔ 0 ≤ a := by rw [ar_0, ar_le ar_B0 h]
theorem ar_lt0 {a : Int} (h : ar_B a) : ar_l a < 0 ↔ a < 0 := by rw [ar_0, ar_lt h ar_B0]
theorem ar_eq0 {a : Int} (h : ar_B a) : ar_l a = 0 ↔ a = 0 := by rw [ar_0, ar_eq h ar_B0]
theorem ar_d10 (s : Bool) {q : Nat} (h : q < 9223372036854775808) : ar_l (ar_s s q) / 10 = ar_l (ar_s s (q / 10)) := by
  rw [ar_10, ar_div (ar_sB h) ⟨by decide, by decide⟩]
  exact congrArg ar_l (ar_td s q 10)
theorem ar_ab {s : Bool} {m : Nat} (hm : m < 9223372036854775808) (A : Int64 → Prop) (h : A (ar_l (m : Int))) : (0 ≤ ar_l (ar_s s m) → A (ar_l (ar_s s m))) ∧ (¬ 0 ≤ ar_l (ar_s s m) → A (-ar_l (ar_s s m))) := by
  rw [ar_le0 (ar_sB hm), ar_neg]
  cases s with
  | false => exact ⟨fun _ => h, fun z => absurd (show (0 : Int) ≤ (m : Int) from by omega) z⟩
  | true =>
    refine ⟨fun z => ?_, fun _ => ?_⟩
    · have : m = 0 := by have : (0 : Int) ≤ -(m : Int) := z; omega
      subst this
      exact h
    · have e : -ar_s true m = (m : Int) := Int.neg_neg _
      rw [e]
      exact h
theorem xw_tenL {post : Int64 → Prop} {p : Nat} (hp : p ≤ 9) (h : post (ar_l ((10 ^ p : Nat) : Int))) : ∀ (d i : Nat) (x : Int64) (y : Int32), i + d = p → x = ar_l ((10 ^ i : Nat) : Int) → y = nI i → wX_tenTo_4 post (nI p) (d + 1) x y
  | 0, i, x, y, hi, hx, hy => by
    subst hx hy
    have e : i = p := by omega
    subst e
    exact br_t (nI_le (Nat.le_refl _) (by omega)) h
  | d + 1, i, x, y, hi, hx, hy => by
    subst hx hy
    exact br_f (nI_ge (by omega) (by omega)) (br_f (nI_ge (b := 9) (by omega) (by decide)) (nm_e (nm_e (xw_tenL hp h d (i + 1) _ _ (by omega) (ar_p10 i) (nI_1 i)))))
theorem xw_ten {post : Int64 → Prop} {p : Nat} (hp : p ≤ 9) (h : post (ar_l ((10 ^ p : Nat) : Int))) : wpX_tenTo post (nI p) :=
  ⟨p + 1, xw_tenL hp h p 0 _ _ (by omega) (by decide) rfl⟩
theorem xw_len {post : Int64 → Prop} {p : Nat} {V : Int} (hp : p ≤ 9) (h : post (ar_l (V * ((10 ^ p : Nat) : Int)))) : wpX_lengthened post (ar_l V) (nI p) :=
  xw_ten (post := fun r => post (ar_l V * r)) hp (by rw [ar_mul]; exact h)
theorem yw_tenL {post : Int64 → Prop} {p : Nat} (hp : p ≤ 18) (h : post (ar_l ((10 ^ p : Nat) : Int))) : ∀ (d i : Nat) (x : Int64) (y : Int32), i + d = p → x = ar_l ((10 ^ i : Nat) : Int) → y = nI i → wY_ten_4 post (nI p) (d + 1) x y
  | 0, i, x, y, hi, hx, hy => by
    subst hx hy
    have e : i = p := by omega
    subst e
    exact br_t (nI_le (Nat.le_refl _) (by omega)) h
  | d + 1, i, x, y, hi, hx, hy => by
    subst hx hy
    exact br_f (nI_ge (by omega) (by omega)) (nm_e (nm_e (yw_tenL hp h d (i + 1) _ _ (by omega) (ar_p10 i) (nI_1 i))))
theorem yw_ten {post : Int64 → Prop} {p : Nat} (hp : p ≤ 18) (h : post (ar_l ((10 ^ p : Nat) : Int))) : wpY_ten post (nI p) :=
  ⟨p + 1, yw_tenL hp h p 0 _ _ (by omega) (by decide) rfl⟩
theorem xw_sh0 {post : Int64 → Prop} {d m : Nat} {s : Bool} (hd : d ≤ 9) (hm : m < 9000000000000000000) (h : post (ar_l (ar_s s (m / 10 ^ d)))) : ∀ (k i : Nat) (x : Int64) (y : Int32), i + k = d → x = ar_l (ar_s s (m / 10 ^ i)) → y = nI i → wX_shortened_6 post (nI d) 0 (k + 1) x y
  | 0, i, x, y, hi, hx, hy => by
    subst hx hy
    have e : i = d := by omega
    subst e
    exact br_t (nI_le (Nat.le_refl _) (by omega)) h
  | k + 1, i, x, y, hi, hx, hy => by
    subst hx hy
    have hq : m / 10 ^ i ≤ m := Nat.div_le_self _ _
    refine br_f (nI_ge (by omega) (by omega)) (br_t rfl ⟨by decide, nm_e (nm_e (xw_sh0 hd hm h k (i + 1) _ _ (by omega) ?_ (nI_1 i)))⟩)
    rw [ar_d10 s (by omega), Nat.div_div_eq_div_mul, ← Nat.pow_succ]
theorem xw_sh1 {post : Int64 → Prop} {d m : Nat} {s : Bool} (hd : d ≤ 9) (hm : m < 9000000000000000000) (h : post (ar_l (ar_s s ((m / 10 ^ (d - 1) + 5) / 10)))) : ∀ (k i : Nat) (x : Int64) (y : Int32), i + (k + 1) = d → x = ar_l (ar_s s (m / 10 ^ i)) → y = nI i → wX_shortened_6 post (nI d) 1 (k + 1 + 1) x y
  | 0, i, x, y, hi, hx, hy => by
    subst hx hy
    have hq : m / 10 ^ i ≤ m := Nat.div_le_self _ _
    have e : d = i + 1 := by omega
    subst e
    rw [Nat.add_sub_cancel] at h
    generalize m / 10 ^ i = u at *
    have hl : nI (i + 1) ≤ nI i + 1 := by rw [nI_1]; exact nI_le (Nat.le_refl _) (by omega)
    have hB : ar_B (ar_s s (u)) := ar_sB (by omega)
    refine br_f (nI_ge (by omega) (by omega)) (br_f (by decide) (br_t (nI_pred i).symm (br_c (fun hc => ?_) (fun hc => ?_))))
    · rw [ar_le0 hB] at hc
      refine nm_e ⟨by decide, nm_e (nm_e (br_t hl ?_))⟩
      have e2 : ar_l (ar_s s (u)) + 5 = ar_l (ar_s false (u + 5)) := by
        rw [ar_5, ar_add]
        cases s with
        | false => rfl
        | true =>
          have h0 : (0 : Int) ≤ -(u : Int) := hc
          have h1 : u = 0 := by omega
          rw [h1]
          rfl
      rw [e2, ar_d10 false (by omega)]
      cases s with
      | false => exact h
      | true =>
        have h0 : (0 : Int) ≤ -(u : Int) := hc
        have h1 : u = 0 := by omega
        rw [h1] at h ⊢
        exact h
    · rw [ar_le0 hB] at hc
      refine nm_e ⟨by decide, nm_e (nm_e (br_t hl ?_))⟩
      cases s with
      | false => exact absurd (show (0 : Int) ≤ (u : Int) from by omega) hc
      | true =>
        have e2 : ar_l (ar_s true (u)) - 5 = ar_l (ar_s true (u + 5)) := by
          rw [ar_5, ar_sub]
          refine congrArg ar_l ?_
          show -(u : Int) - 5 = -((u + 5 : Nat) : Int)
          omega
        rw [e2, ar_d10 true (by omega)]
        exact h
  | k + 1, i, x, y, hi, hx, hy => by
    subst hx hy
    have hq : m / 10 ^ i ≤ m := Nat.div_le_self _ _
    have hne : ¬ nI i = nI d - 1 := by
      obtain ⟨c, rfl⟩ : ∃ c, d = c + 1 := ⟨d - 1, by omega⟩
      rw [nI_pred, nI_eq (by omega) (by omega)]
      omega
    refine br_f (nI_ge (by omega) (by omega)) (br_f (by decide) (br_f hne ⟨by decide, nm_e (nm_e (xw_sh1 hd hm h k (i + 1) _ _ (by omega) ?_ (nI_1 i)))⟩))
    rw [ar_d10 s (by omega), Nat.div_div_eq_div_mul, ← Nat.pow_succ]
def rd_b (r : Bool) : Int32 := if r = true then 1 else 0
theorem xw_short {post : Int64 → Prop} {d m : Nat} {s r : Bool} (hd : d ≤ 9) (hm : m < 9000000000000000000) (h : post (ar_l (ar_s s (rd_q m (10 ^ d) r)))) : wpX_shortened post (ar_l (ar_s s m)) (nI d) (rd_b r) := by
  rw [← rd_eq] at h
  cases r with
  | false =>
    have h : post (ar_l (ar_s s (m / 10 ^ d))) := h
    exact ⟨d + 1, xw_sh0 hd hm h d 0 _ _ (by omega) (by rw [Nat.pow_zero, Nat.div_one]) rfl⟩
  | true =>
    cases d with
    | zero =>
      have h : post (ar_l (ar_s s (m / 10 ^ 0))) := h
      rw [Nat.pow_zero, Nat.div_one] at h
      exact ⟨1, br_t (nI_le (Nat.le_refl _) (by decide)) h⟩
    | succ e =>
      have h : post (ar_l (ar_s s ((m / 10 ^ (e + 1 - 1) + 5) / 10))) := h
      exact ⟨e + 1 + 1, xw_sh1 hd hm h e 0 _ _ (by omega) (by rw [Nat.pow_zero, Nat.div_one]) rfl⟩
theorem ar_pos {s : Bool} {m : Nat} (hm : m < 9223372036854775808) (h : s = true → 0 < m) : (0 : Int64) ≤ ar_l (ar_s s m) ↔ s = false := by
  rw [ar_le0 (ar_sB hm)]
  cases s with
  | false => exact ⟨fun _ => rfl, fun _ => (show (0 : Int) ≤ (m : Int) from by omega)⟩
  | true =>
    have := h rfl
    exact ⟨fun z => absurd (show (0 : Int) ≤ -(m : Int) from z) (by omega), fun z => absurd z (by decide)⟩
theorem ar_rm {a b : Nat} (ha : a < 9223372036854775808) (hb : b < 9223372036854775808) : ar_l (a : Int) - ar_l (a : Int) / ar_l (b : Int) * ar_l (b : Int) = ar_l ((a % b : Nat) : Int) := by
  rw [ar_rem (ar_nB ha) (ar_nB hb)]
  rfl
theorem ar_dv {a b : Nat} (ha : a < 9223372036854775808) (hb : b < 9223372036854775808) : ar_l (a : Int) / ar_l (b : Int) = ar_l ((a / b : Nat) : Int) := by
  rw [ar_div (ar_nB ha) (ar_nB hb)]
  rfl
theorem ar_ltn {a b : Nat} (ha : a < 9223372036854775808) (hb : b < 9223372036854775808) : ar_l (a : Int) < ar_l (b : Int) ↔ a < b := by
  rw [ar_lt (ar_nB ha) (ar_nB hb)]
  exact Int.ofNat_lt
theorem ar_n0 {a : Nat} (h0 : 0 < a) (ha : a < 9223372036854775808) : ¬ ar_l (a : Int) = 0 := by
  rw [ar_eq0 (ar_nB ha)]
  omega
theorem xw_q94 {post : Int64 → Prop} {sa sb : Bool} {q : Nat} (h : post (ar_l (ar_s (sa != sb) q))) : wX_quotient_94 post (ar_l (q : Int)) (rd_b sb) (rd_b sa) := by
  cases sa <;> cases sb
  · exact br_t rfl h
  · exact br_f (by decide) (by rw [ar_neg]; exact h)
  · exact br_f (by decide) (by rw [ar_neg]; exact h)
  · exact br_t rfl h
theorem xw_q72 {post : Int64 → Prop} {sa sb : Bool} {ma mb q : Nat} (ha : ma < 9223372036854775808) (hb : mb < 9223372036854775808) (h1 : sa = true → 0 < ma) (h2 : sb = true → 0 < mb) (h : post (ar_l (ar_s (sa != sb) q))) : wX_quotient_72 post (ar_l (ar_s sa ma)) (ar_l (ar_s sb mb)) (ar_l (q : Int)) := by
  have k : wX_quotient_83 post (ar_l (ar_s sb mb)) (ar_l (q : Int)) (rd_b sa) := by
    cases sb with
    | false => exact br_t ((ar_pos hb h2).mpr rfl) (xw_q94 h)
    | true => exact br_f (fun z => absurd ((ar_pos hb h2).mp z) (by decide)) (xw_q94 h)
  cases sa with
  | false => exact br_t ((ar_pos ha h1).mpr rfl) k
  | true => exact br_f (fun z => absurd ((ar_pos ha h1).mp z) (by decide)) k
theorem xw_quot {post : Int64 → Prop} {sa sb r : Bool} {ma mb : Nat} (ha : ma < 9000000000000000000) (hb : mb < 9000000000000000000) (h0 : 0 < mb) (h1 : sa = true → 0 < ma) (h : post (ar_l (ar_s (sa != sb) (rd_q ma mb r)))) : wpX_quotient post (ar_l (ar_s sa ma)) (ar_l (ar_s sb mb)) (rd_b r) := by
  have hz : ¬ ar_l (ar_s sb mb) = 0 := by
    rw [ar_eq0 (ar_sB (by omega))]
    cases sb with
    | false => exact fun z => absurd (show (mb : Int) = 0 from z) (by omega)
    | true => exact fun z => absurd (show -(mb : Int) = 0 from z) (by omega)
  have hr : ma % mb < mb := Nat.mod_lt _ h0
  have hd : ma / mb ≤ ma := Nat.div_le_self _ _
  refine br_f hz (ar_ab (by omega) (fun z => wX_quotient_20 post (ar_l (ar_s sa ma)) (ar_l (ar_s sb mb)) (rd_b r) z) ?_)
  refine ar_ab (by omega) (fun z => wX_quotient_34 post (ar_l (ar_s sa ma)) (ar_l (ar_s sb mb)) (rd_b r) (ar_l (ma : Int)) z) ?_
  refine ⟨ar_n0 h0 (by omega), nm_r (ar_dv (by omega) (by omega)) ⟨ar_n0 h0 (by omega), nm_r (ar_rm (by omega) (by omega)) ?_⟩⟩
  unfold rd_q at h
  cases r with
  | false =>
    rw [if_neg (fun z => absurd z.1 (by decide))] at h
    exact br_t rfl (xw_q72 (by omega) (by omega) h1 (fun _ => h0) h)
  | true =>
    refine br_f (by decide) ?_
    have e : ar_l (mb : Int) - ar_l ((ma % mb : Nat) : Int) = ar_l ((mb - ma % mb : Nat) : Int) := by
      rw [ar_sub]
      exact congrArg ar_l (by omega)
    rw [e, ar_ltn (by omega) (by omega)]
    by_cases hc : mb ≤ 2 * (ma % mb)
    · rw [if_pos ⟨rfl, hc⟩] at h
      refine br_f (by omega) (nm_r (e' := ar_l ((ma / mb + 1 : Nat) : Int)) (by rw [ar_1, ar_add]; rfl) ?_)
      exact xw_q72 (by omega) (by omega) h1 (fun _ => h0) h
    · rw [if_neg (fun z => hc z.2)] at h
      exact br_t (by omega) (xw_q72 (by omega) (by omega) h1 (fun _ => h0) h)
theorem ar_i10 {q : Nat} (hq : q < 9223372036854775808) : (ar_l (q : Int) - ar_l (q : Int) / 10 * 10).toInt32 = nI (q % 10) := by
  have e : ar_l (q : Int) - ar_l (q : Int) / 10 * 10 = ar_l ((q % 10 : Nat) : Int) := ar_rm (b := 10) hq (by decide)
  rw [e, ← ar_N, lN_i]
theorem yw_digit {post : Int32 → Prop} {s : Bool} {m has wants k : Nat} (hm : m < 9000000000000000000) (h1 : has ≤ 9) (h2 : wants ≤ 9) (h3 : k ≤ 9) (h : post (nI (dg_d m has wants k))) : wpY_digit post (ar_l (ar_s s m)) (nI has) (nI wants) (nI k) := by
  have e : nI k - nI wants + nI has = nI (k + has) - nI wants := by
    rw [← nI_add]
    grind
  refine nm_r e (ar_ab (by omega) (fun z => wY_digit_20 post (nI (k + has) - nI wants) z) ?_)
  unfold dg_d at h
  by_cases hc : k + has < wants
  · rw [if_pos hc] at h
    exact br_f (Int32.not_le.mpr (pk_sneg (by omega) hc)) h
  · rw [if_neg hc] at h
    rw [pk_sub (by omega)]
    have hp : 10 ^ (k + has - wants) ≤ 10 ^ 18 := ar_ple (by omega)
    have hp0 : 0 < 10 ^ (k + has - wants) := ar_pp _
    have hd : m / 10 ^ (k + has - wants) ≤ m := Nat.div_le_self _ _
    refine br_t (nI_pos' (by omega)) (br_t (nI_le (b := 18) (by omega) (by decide)) (yw_ten (by omega) ⟨ar_n0 hp0 (Nat.lt_of_le_of_lt hp (by decide)), by decide, ?_⟩))
    rw [ar_dv (by omega) (Nat.lt_of_le_of_lt hp (by decide)), ar_i10 (by omega)]
    exact h
