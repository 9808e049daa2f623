/-! store: the row of digits, a number's places, the sign -/
theorem ar_dn {q : Nat} (h : q < 9223372036854775808) : ar_l (q : Int) / 10 = ar_l ((q / 10 : Nat) : Int) := ar_d10 false h
theorem sg_up0 (st : Nat → Int32) (hi : Nat) (f : Nat → Int32) : upd (sg_put st 0 0 hi f) hi (f hi) = sg_put st 0 0 (hi + 1) f := by
  have := sg_up st 0 0 hi f (Nat.zero_le _)
  rwa [Nat.zero_add] at this
theorem sg_dn0 (st : Nat → Int32) (lo hi : Nat) (f : Nat → Int32) (h : lo < hi) : upd (sg_put st 0 (lo + 1) hi f) lo (f lo) = sg_put st 0 lo hi f := by
  have := sg_dn st 0 lo hi f h
  rwa [Nat.zero_add] at this
def sr_f (M W : Nat) : Nat → Int32 := fun i => nI (M / 10 ^ (W - 1 - i) % 10)
def sr_x (st : Nat → Int32) (F S W : Nat) (s : Bool) (M : Nat) : Nat → Int32 :=
  if S = 0 then sg_put st F S W (sr_f M W) else upd (sg_put st F S W (sr_f M W)) F (if s = true ∧ 0 < M then 11 else 12)
theorem sr_m1 {S : Nat} (h : S ≤ 1) : nI S - 1 < nI S := by
  rcases (show S = 0 ∨ S = 1 by omega) with rfl | rfl <;> decide
theorem sr_add (a : Int32) : a + (-1) = a - 1 := (Int32.sub_eq_add_neg a 1).symm
/-! below: does a digit that is not zero stand under a minus -/
def bl_f (s : Bool) (g : Nat → Nat) : Nat → Bool
  | 0 => false
  | i + 1 => bl_f s g i || (s && decide (g i ≠ 0))
theorem bl_iff (s : Bool) (g : Nat → Nat) : ∀ n, bl_f s g n = true ↔ (s = true ∧ ∃ i, i < n ∧ g i ≠ 0)
  | 0 => ⟨fun z => absurd (show false = true from z) (by decide), fun ⟨_, i, hi, _⟩ => absurd hi (by omega)⟩
  | n + 1 => by
    show (bl_f s g n || (s && decide (g n ≠ 0))) = true ↔ _
    rw [Bool.or_eq_true, bl_iff s g n, Bool.and_eq_true, decide_eq_true_eq]
    constructor
    · rintro (⟨a, i, hi, z⟩ | ⟨a, z⟩)
      · exact ⟨a, i, by omega, z⟩
      · exact ⟨a, n, by omega, z⟩
    · rintro ⟨a, i, hi, z⟩
      by_cases e : i = n
      · subst e
        exact Or.inr ⟨a, z⟩
      · exact Or.inl ⟨a, i, by omega, z⟩
theorem bl_eq (s : Bool) (m has wants D : Nat) : bl_f s (fun i => dg_d m has wants (D - 1 - i)) D = true ↔ (s = true ∧ 0 < dg_N m has wants % 10 ^ D) := by
  rw [bl_iff]
  constructor
  · rintro ⟨a, i, hi, z⟩
    exact ⟨a, Nat.pos_of_ne_zero ((dg_nz m has wants D).mpr ⟨D - 1 - i, by omega, z⟩)⟩
  · rintro ⟨a, z⟩
    obtain ⟨k, hk, q⟩ := (dg_nz m has wants D).mp (by omega)
    refine ⟨a, D - 1 - k, by omega, ?_⟩
    show dg_d m has wants (D - 1 - (D - 1 - k)) ≠ 0
    rw [show D - 1 - (D - 1 - k) = k from by omega]
    exact q
theorem rd_o0 (b : Bool) : rd_b b ||| 0 = rd_b b := by cases b <;> decide
theorem rd_o1 (b : Bool) : rd_b b ||| 1 = 1 := by cases b <;> decide
section
variable {cn ck fp pg ob hr sp ix sz pf sc ye yj : Int32}
variable {st kd pl wd tm dg dc ss pc op ox oy oz ps jp oi pa pt sh lc rc dr ln sn sd ch oth lw hg le bk fm vy : Nat → Int32}
variable {K A W T D B S L e j F M m has : Nat} {s : Bool}
theorem xs_numL {post : SX → Prop} (hS : S ≤ 1) (hW : W = L + S) (hF : F + W ≤ 96) (hM : M < 9000000000000000000) (h : post (cn, ck, fp, pg, ob, hr, sp, ix, sz, pf, sc, sr_x st F S W s M, kd, pl, wd, tm, dg, dc, ss, pc, op, ox, oy, oz, ps, jp, oi, pa, pt, sh, lc, rc, dr)) :
    ∀ (c : Nat) (x5 : Int64) (x8 : Int32) (q : Nat → Int32), c ≤ L → x5 = ar_l ((M / 10 ^ (L - c) : Nat) : Int) → x8 = nI (S + c) - 1 → q = sg_put st F (S + c) W (sr_f M W) →
    wX_putNumber_32 post (nI F) (ar_l (ar_s s M)) (nI S) cn ck fp pg ob hr sp ix sz pf sc (c + 1) x5 x8 q kd pl wd tm dg dc ss pc op ox oy oz ps jp oi pa pt sh lc rc dr
  | 0, x5, x8, q, hc, h5, h8, hq => by
    subst h5 h8 hq
    refine br_t (sr_m1 hS) ?_
    unfold sr_x at h
    by_cases h0 : S = 0
    · subst h0
      rw [if_pos rfl] at h
      exact br_t (nI_le (b := 0) (by omega) (by decide)) h
    · have h1 : S = 1 := by omega
      subst h1
      rw [if_neg h0] at h
      refine br_f (nI_ge (a := 0) (by omega) (by omega)) ?_
      have v : vp_in (nI F) 96 := vp_in_nI (by omega) (by decide)
      rw [ar_le0 (ar_sB (by omega)), nI_clamp (show F < 2 ^ 31 by omega)]
      refine br_c (fun z => ⟨v, nm_e ?_⟩) (fun z => ⟨v, nm_e ?_⟩)
      · rw [if_neg (fun w => absurd ((ar_neg0 s M).mpr w) (by omega))] at h
        exact h
      · rw [if_pos ((ar_neg0 s M).mp (by omega))] at h
        exact h
  | c + 1, x5, x8, q, hc, h5, h8, hq => by
    subst h5 h8 hq
    have e8 : nI (S + (c + 1)) - 1 = nI (S + c) := nI_pred (S + c)
    have hq : M / 10 ^ (L - (c + 1)) ≤ M := Nat.div_le_self _ _
    rw [e8]
    refine br_f (nI_nlt (by omega) (by omega)) ⟨by decide, ?_⟩
    rw [nI_add, nI_clamp (show F + (S + c) < 2 ^ 31 by omega), ar_i10 (by omega)]
    refine ⟨vp_in_nI (by omega) (by decide), nm_e ⟨by decide, nm_e (nm_e (xs_numL hS hW hF hM h c _ _ _ (by omega) ?_ (sr_add _) ?_))⟩⟩
    · rw [ar_dn (by omega), Nat.div_div_eq_div_mul, ← Nat.pow_succ, show (L - (c + 1)).succ = L - c from by omega]
    · have := sg_dn st F (S + c) W (sr_f M W) (by omega)
      rw [← this]
      show upd _ _ _ = upd _ _ (nI (M / 10 ^ (W - 1 - (S + c)) % 10))
      rw [show W - 1 - (S + c) = L - (c + 1) from by omega]
      rfl
theorem xs_num {post : SX → Prop} (hj : j < 12) (R : it_R kd pl wd tm dg dc ss pc ln sn sd j K A W T D B S L) (hF : F + W ≤ 96) (hM : M < 10 ^ L) (hL : L ≤ 9) (h : post (cn, ck, fp, pg, ob, hr, sp, ix, sz, pf, sc, sr_x st F S W s M, kd, pl, wd, tm, dg, dc, ss, pc, op, ox, oy, oz, ps, jp, oi, pa, pt, sh, lc, rc, dr)) : wpX_putNumber post (cn, ck, fp, pg, ob, hr, sp, ix, sz, pf, sc, st, kd, pl, wd, tm, dg, dc, ss, pc, op, ox, oy, oz, ps, jp, oi, pa, pt, sh, lc, rc, dr) (nI j) (nI F) (ar_l (ar_s s M)) := by
  obtain ⟨⟨r1, r2, r3, r4, r5, r6, r7, r8⟩, ⟨k1, k2, k3, k4, k5, k6, k7, k8, k9, k10, k11⟩, q1, q2, -⟩ := R
  have v : vp_in (nI j) 12 := vp_in_nI hj (by decide)
  have hM2 : M < 1000000000 := Nat.lt_of_lt_of_le hM (Nat.pow_le_pow_right (n := 10) (by decide) hL)
  refine ar_ab (by omega) (fun z => wX_putNumber_12 post (nI j) (nI F) (ar_l (ar_s s M)) z cn ck fp pg ob hr sp ix sz pf sc st kd pl wd tm dg dc ss pc op ox oy oz ps jp oi pa pt sh lc rc dr) ⟨v, ?_⟩
  rw [nI_clamp (by omega), r7, r3]
  refine nm_e ⟨v, nm_e ⟨L + 1, xs_numL k9 k7 hF (by omega) h L _ _ _ (Nat.le_refl _) ?_ (by rw [k7, Nat.add_comm]) ?_⟩⟩
  · rw [Nat.sub_self, Nat.pow_zero, Nat.div_one]
  · rw [k7, Nat.add_comm S L, sg_0]
end
