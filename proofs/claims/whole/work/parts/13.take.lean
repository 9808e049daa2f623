/-! characters: takeCharacters and take, takeDigits and spell -/
section
variable {cn ck fp pg ob hr sp ix sz pf sc ye yj : Int32}
variable {st kd pl wd tm dg dc ss pc op ox oy oz ps jp oi pa pt sh lc rc dr ln sn sd ch oth lw hg le bk fm vy : Nat → Int32}
variable {K A W T D B S L e j F M m has N n : Nat} {s : Bool}
theorem xt_leftL {post : SX → Prop} {p w : Nat} (hp : p + w ≤ 96) (h : post (cn, ck, fp, pg, ob, hr, sp, ix, sz, pf, sc, st, kd, pl, wd, tm, dg, dc, ss, pc, op, ox, oy, oz, ps, jp, oi, pa, pt, sh, sg_put lc 0 0 12 (tx_c st p w), rc, dr)) : ∀ (d i : Nat) (x6 : Int32) (q : Nat → Int32), i + d = 12 → x6 = nI i → q = sg_put lc 0 0 i (tx_c st p w) →
    wX_takeCharacters__leftCharacters_29 post (nI p) (nI w) cn ck fp pg ob hr sp ix sz pf sc (d + 1) x6 st kd pl wd tm dg dc ss pc op ox oy oz ps jp oi pa pt sh q rc dr
  | 0, i, x6, q, hd, h6, hq => by
    subst h6 hq
    have e1 : i = 12 := by omega
    subst e1
    exact br_t (by decide) h
  | d + 1, i, x6, q, hd, h6, hq => by
    subst h6 hq
    refine br_f (nI_ge (b := 12) (by omega) (by decide)) ?_
    have IH : ∀ q' : Nat → Int32, q' = sg_put lc 0 0 (i + 1) (tx_c st p w) → wX_takeCharacters__leftCharacters_29 post (nI p) (nI w) cn ck fp pg ob hr sp ix sz pf sc (d + 1) (nI i + 1) st kd pl wd tm dg dc ss pc op ox oy oz ps jp oi pa pt sh q' rc dr := fun q' e => xt_leftL hp h d (i + 1) _ _ (by omega) (nI_1 i) e
    have v : vp_in (nI i) 12 := vp_in_nI (by omega) (by decide)
    have ci : (nI i).toNatClampNeg = i := nI_clamp (by omega)
    have up := sg_up0 lc i (tx_c st p w)
    unfold tx_c at up
    by_cases hw : i < w
    · refine br_f (nI_ge hw (by omega)) ?_
      rw [nI_add, nI_clamp (show p + i < 2 ^ 31 by omega), ci]
      refine ⟨vp_in_nI (by omega) (by decide), v, nm_e (nm_e (IH _ ?_))⟩
      rw [if_pos hw] at up
      exact up
    · refine br_t (nI_le (by omega) (by omega)) ?_
      rw [ci]
      refine ⟨v, nm_e (nm_e (IH _ ?_))⟩
      rw [if_neg hw] at up
      exact up
theorem xt_left {post : SX → Prop} (hj : j < 12) (R : it_R kd pl wd tm dg dc ss pc ln sn sd j K A W T D B S L) (hx : it_X ix T e) (h : post (cn, ck, fp, pg, ob, hr, sp, ix, sz, pf, sc, st, kd, pl, wd, tm, dg, dc, ss, pc, op, ox, oy, oz, ps, jp, oi, pa, pt, sh, sg_put lc 0 0 12 (tx_c st (A + (e - 1) * W + S) (W - S)), rc, dr)) : wpX_takeCharacters__leftCharacters post (cn, ck, fp, pg, ob, hr, sp, ix, sz, pf, sc, st, kd, pl, wd, tm, dg, dc, ss, pc, op, ox, oy, oz, ps, jp, oi, pa, pt, sh, lc, rc, dr) (nI j) := by
  have R0 := R
  obtain ⟨⟨r1, r2, r3, r4, r5, r6, r7, r8⟩, ⟨k1, k2, k3, k4, k5, k6, k7, k8, k9, k10, k11⟩, -, -, -⟩ := R0
  have hF : A + (e - 1) * W + W ≤ 96 := it_F k8 hx.1 hx.2.1
  have v : vp_in (nI j) 12 := vp_in_nI hj (by decide)
  refine ⟨v, nm_e (xi_place hj R hx ?_)⟩
  generalize A + (e - 1) * W = F at *
  rw [nI_clamp (show j < 2 ^ 31 by omega), r7, r3]
  refine nm_r (nI_add _ _) ⟨v, nm_r (pk_sub (by omega)) ⟨13, xt_leftL (by omega) h 12 0 _ _ (by omega) rfl (sg_0 _ _ _ _).symm⟩⟩
theorem xt_rightL {post : SX → Prop} {p w : Nat} (hp : p + w ≤ 96) (h : post (cn, ck, fp, pg, ob, hr, sp, ix, sz, pf, sc, st, kd, pl, wd, tm, dg, dc, ss, pc, op, ox, oy, oz, ps, jp, oi, pa, pt, sh, lc, sg_put rc 0 0 12 (tx_c st p w), dr)) : ∀ (d i : Nat) (x6 : Int32) (q : Nat → Int32), i + d = 12 → x6 = nI i → q = sg_put rc 0 0 i (tx_c st p w) →
    wX_takeCharacters__rightCharacters_29 post (nI p) (nI w) cn ck fp pg ob hr sp ix sz pf sc (d + 1) x6 st kd pl wd tm dg dc ss pc op ox oy oz ps jp oi pa pt sh lc q dr
  | 0, i, x6, q, hd, h6, hq => by
    subst h6 hq
    have e1 : i = 12 := by omega
    subst e1
    exact br_t (by decide) h
  | d + 1, i, x6, q, hd, h6, hq => by
    subst h6 hq
    refine br_f (nI_ge (b := 12) (by omega) (by decide)) ?_
    have IH : ∀ q' : Nat → Int32, q' = sg_put rc 0 0 (i + 1) (tx_c st p w) → wX_takeCharacters__rightCharacters_29 post (nI p) (nI w) cn ck fp pg ob hr sp ix sz pf sc (d + 1) (nI i + 1) st kd pl wd tm dg dc ss pc op ox oy oz ps jp oi pa pt sh lc q' dr := fun q' e => xt_rightL hp h d (i + 1) _ _ (by omega) (nI_1 i) e
    have v : vp_in (nI i) 12 := vp_in_nI (by omega) (by decide)
    have ci : (nI i).toNatClampNeg = i := nI_clamp (by omega)
    have up := sg_up0 rc i (tx_c st p w)
    unfold tx_c at up
    by_cases hw : i < w
    · refine br_f (nI_ge hw (by omega)) ?_
      rw [nI_add, nI_clamp (show p + i < 2 ^ 31 by omega), ci]
      refine ⟨vp_in_nI (by omega) (by decide), v, nm_e (nm_e (IH _ ?_))⟩
      rw [if_pos hw] at up
      exact up
    · refine br_t (nI_le (by omega) (by omega)) ?_
      rw [ci]
      refine ⟨v, nm_e (nm_e (IH _ ?_))⟩
      rw [if_neg hw] at up
      exact up
theorem xt_right {post : SX → Prop} (hj : j < 12) (R : it_R kd pl wd tm dg dc ss pc ln sn sd j K A W T D B S L) (hx : it_X ix T e) (h : post (cn, ck, fp, pg, ob, hr, sp, ix, sz, pf, sc, st, kd, pl, wd, tm, dg, dc, ss, pc, op, ox, oy, oz, ps, jp, oi, pa, pt, sh, lc, sg_put rc 0 0 12 (tx_c st (A + (e - 1) * W + S) (W - S)), dr)) : wpX_takeCharacters__rightCharacters post (cn, ck, fp, pg, ob, hr, sp, ix, sz, pf, sc, st, kd, pl, wd, tm, dg, dc, ss, pc, op, ox, oy, oz, ps, jp, oi, pa, pt, sh, lc, rc, dr) (nI j) := by
  have R0 := R
  obtain ⟨⟨r1, r2, r3, r4, r5, r6, r7, r8⟩, ⟨k1, k2, k3, k4, k5, k6, k7, k8, k9, k10, k11⟩, -, -, -⟩ := R0
  have hF : A + (e - 1) * W + W ≤ 96 := it_F k8 hx.1 hx.2.1
  have v : vp_in (nI j) 12 := vp_in_nI hj (by decide)
  refine ⟨v, nm_e (xi_place hj R hx ?_)⟩
  generalize A + (e - 1) * W = F at *
  rw [nI_clamp (show j < 2 ^ 31 by omega), r7, r3]
  refine nm_r (nI_add _ _) ⟨v, nm_r (pk_sub (by omega)) ⟨13, xt_rightL (by omega) h 12 0 _ _ (by omega) rfl (sg_0 _ _ _ _).symm⟩⟩
theorem yt_L {post : Int32 → SY → Prop} {sk : Nat} (hs : sk ≤ W) (hF : F + W ≤ 96) (hW : W ≤ 13) (h : post (nI (W - sk)) (cn, fp, ck, pf, hr, sp, ix, sc, ye, sz, yj, st, kd, pl, ln, dc, tm, sn, sd, op, ox, oy, oz, sh, sg_put ch 0 0 (W - sk) (fun i => st (F + sk + i)), oth, lw, hg, le, bk, fm, vy)) : ∀ (d k : Nat) (x6 : Int32) (q : Nat → Int32), sk + k + d = W → x6 = nI (sk + k) → q = sg_put ch 0 0 k (fun i => st (F + sk + i)) →
    wY_take_41 post (nI F) (nI sk) (nI W) cn fp ck pf hr sp ix sc ye sz yj (d + 1) x6 st kd pl ln dc tm sn sd op ox oy oz sh q oth lw hg le bk fm vy
  | 0, k, x6, q, hd, h6, hq => by
    subst h6 hq
    have e1 : k = W - sk := by omega
    refine br_t (nI_le (by omega) (by omega)) ?_
    rw [pk_sub hs, e1]
    exact h
  | d + 1, k, x6, q, hd, h6, hq => by
    subst h6 hq
    refine br_f (nI_ge (by omega) (by omega)) ?_
    have e1 : nI (sk + k) - nI sk = nI k := by rw [pk_sub (by omega), Nat.add_sub_cancel_left]
    rw [nI_add, nI_clamp (show F + (sk + k) < 2 ^ 31 by omega), e1, nI_clamp (show k < 2 ^ 31 by omega)]
    refine ⟨vp_in_nI (by omega) (by decide), vp_in_nI (by omega) (by decide), nm_e (nm_e (yt_L hs hF hW h d (k + 1) _ _ (by omega) (nI_1 _) ?_))⟩
    have up := sg_up0 ch k (fun i => st (F + sk + i))
    rw [← up, Nat.add_assoc]
/-- what take answers and leaves: sk is 1 where the sign is passed over -/
theorem yt_take {post : Int32 → SY → Prop} {p1 : Int32} {sk : Nat} (hj : j < 12) (R : it_R kd pl wd tm dg dc ss pc ln sn sd j K A W T D B S L) (hx : it_X ix T e) (hsk : (p1 = 0 ∧ sk = S) ∨ (¬ p1 = 0 ∧ sk = 0)) (h : post (nI (W - sk)) (cn, fp, ck, pf, hr, sp, ix, sc, ye, sz, yj, st, kd, pl, ln, dc, tm, sn, sd, op, ox, oy, oz, sh, sg_put ch 0 0 (W - sk) (fun i => st (A + (e - 1) * W + sk + i)), oth, lw, hg, le, bk, fm, vy)) : wpY_take post (cn, fp, ck, pf, hr, sp, ix, sc, ye, sz, yj, st, kd, pl, ln, dc, tm, sn, sd, op, ox, oy, oz, sh, ch, oth, lw, hg, le, bk, fm, vy) (nI j) p1 := by
  have R0 := R
  obtain ⟨⟨r1, r2, r3, r4, r5, r6, r7, r8⟩, ⟨k1, k2, k3, k4, k5, k6, k7, k8, k9, k10, k11⟩, q1, q2, -⟩ := R0
  have hF : A + (e - 1) * W + W ≤ 96 := it_F k8 hx.1 hx.2.1
  unfold wpY_take
  refine yi_elem hj R hx ?_
  refine yi_spot hj R hx.1 ?_
  refine yi_sign hj R ?_
  generalize A + (e - 1) * W = F at *
  have go : wY_take_28 post (nI j) (nI F) (nI sk) cn fp ck pf hr sp ix sc ye sz yj st kd pl ln dc tm sn sd op ox oy oz sh ch oth lw hg le bk fm vy := by
    unfold wY_take_28
    exact yi_width hj R ⟨W - sk + 1, yt_L (by omega) hF (by omega) h (W - sk) 0 _ _ (by omega) rfl (sg_0 _ _ _ _).symm⟩
  rcases (show S = 0 ∨ S = 1 by omega) with e0 | e0
  · have : sk = 0 := by rcases hsk with z | z <;> omega
    subst this
    rw [e0]
    exact br_t rfl go
  · rw [e0]
    refine br_f (by decide) ?_
    rcases hsk with ⟨z, w⟩ | ⟨z, w⟩
    · rw [w, e0] at go
      exact br_t z go
    · rw [w] at go
      exact br_f z go
theorem pk_uu {f : Nat → Int32} {k : Nat} {x y : Int32} : upd (upd f k x) k y = upd f k y := by
  funext i
  unfold upd
  by_cases h : i = k
  · rw [if_pos h, if_pos h]
  · rw [if_neg h, if_neg h, if_neg h]
theorem xt_digL {post : SX → Prop} (hn : n ≤ 10) (hm : m < 9000000000000000000) (h : post (cn, ck, fp, pg, ob, hr, sp, ix, sz, pf, sc, st, kd, pl, wd, tm, dg, dc, ss, pc, op, ox, oy, oz, ps, jp, oi, pa, pt, sh, sg_put lc 0 0 12 (nd_t m n), rc, dr)) : ∀ (c : Nat) (x5 : Int64) (x7 : Int32) (q : Nat → Int32), c ≤ 12 → x5 = ar_l ((m / 10 ^ (n - c) : Nat) : Int) → x7 = nI c - 1 → q = sg_put lc 0 c 12 (nd_t m n) →
    wX_takeDigits__leftCharacters_65 post (nI n) cn ck fp pg ob hr sp ix sz pf sc (c + 1) x5 x7 st kd pl wd tm dg dc ss pc op ox oy oz ps jp oi pa pt sh q rc dr
  | 0, x5, x7, q, hc, h5, h7, hq => by
    subst h5 h7 hq
    exact br_t (by decide) h
  | c + 1, x5, x7, q, hc, h5, h7, hq => by
    subst h5 h7 hq
    have hq : m / 10 ^ (n - (c + 1)) ≤ m := Nat.div_le_self _ _
    have v : vp_in (nI c) 12 := vp_in_nI (by omega) (by decide)
    have dn := sg_dn0 lc c 12 (nd_t m n) (by omega)
    rw [nI_pred]
    refine br_f (nI_pos (by omega)) ⟨v, ?_⟩
    rw [nI_clamp (show c < 2 ^ 31 by omega), ar_i10 (by omega)]
    refine nm_e ?_
    by_cases hcn : n ≤ c
    · refine br_t (nI_le hcn (by omega)) (nm_e (xt_digL hn hm h c _ _ _ (by omega) ?_ (sr_add _) ?_))
      · rw [show n - (c + 1) = n - c from by omega]
      · rw [← dn]
        unfold nd_t
        rw [if_neg (by omega)]
    · refine br_f (nI_ge (by omega) (by omega)) ⟨by decide, v, nm_e ⟨by decide, nm_e (nm_e (xt_digL hn hm h c _ _ _ (by omega) ?_ (sr_add _) ?_))⟩⟩
      · rw [ar_dn (by omega), Nat.div_div_eq_div_mul, ← Nat.pow_succ, show (n - (c + 1)).succ = n - c from by omega]
      · rw [pk_uu, ← dn]
        have e1 : nd_t m n c = nI (m / 10 ^ (n - (c + 1)) % 10) := by
          unfold nd_t
          rw [if_pos (by omega), show n - 1 - c = n - (c + 1) from by omega]
        rw [e1]
theorem xt_cntL {post : SX → Prop} (hn : nd_P m n) (hm : m < 9000000000000000000) (h : post (cn, ck, fp, pg, ob, hr, sp, ix, sz, pf, sc, st, kd, pl, wd, tm, dg, dc, ss, pc, op, ox, oy, oz, ps, jp, oi, pa, pt, sh, sg_put lc 0 0 12 (nd_t m n), rc, dr)) : ∀ (d i : Nat) (x4 : Int32) (x5 : Int64) (x7 : Int32), i + d = n → x4 = nI i → x5 = ar_l ((m / 10 ^ i : Nat) : Int) → x7 = nI i →
    wX_takeDigits__leftCharacters_22 post (ar_l (m : Int)) cn ck fp pg ob hr sp ix sz pf sc st kd pl wd tm dg dc ss pc op ox oy oz ps jp oi pa pt sh lc rc dr (d + 1) x4 x5 x7
  | 0, i, x4, x5, x7, hd, h4, h5, h7 => by
    subst h4 h5 h7
    obtain ⟨n1, n2, n3, n4⟩ := hn
    have e1 : i = n := by omega
    subst e1
    refine br_f (nI_ge (b := 12) (by omega) (by decide)) (br_f (nI_ne0 (by omega) (by omega)) (br_t ?_ ⟨13, xt_digL n2 hm h 12 _ _ _ (Nat.le_refl _) ?_ (by decide) (sg_0 _ _ _ _).symm⟩))
    · rw [n3]
      decide
    · rw [show i - 12 = 0 from by omega, Nat.pow_zero, Nat.div_one]
  | d + 1, i, x4, x5, x7, hd, h4, h5, h7 => by
    subst h4 h5 h7
    have hn0 := hn
    obtain ⟨n1, n2, n3, n4⟩ := hn0
    have hq : m / 10 ^ i ≤ m := Nat.div_le_self _ _
    have e5 : ar_l ((m / 10 ^ i : Nat) : Int) / 10 = ar_l ((m / 10 ^ (i + 1) : Nat) : Int) := by rw [ar_dn (by omega), Nat.div_div_eq_div_mul, ← Nat.pow_succ]
    have IH := xt_cntL hn hm h d (i + 1) _ _ _ (by omega) (nI_1 i) e5 (nI_1 i)
    refine br_f (nI_ge (b := 12) (by omega) (by decide)) ?_
    by_cases hi : i = 0
    · subst hi
      exact br_t rfl ⟨by decide, nm_e (nm_e (nm_e IH))⟩
    · refine br_f (nI_ne0 (by omega) (by omega)) (br_f ?_ ⟨by decide, nm_e (nm_e (nm_e IH))⟩)
      have := n4 i (by omega) (by omega)
      rw [ar_0, ar_le (ar_nB (by omega)) ar_B0]
      generalize m / 10 ^ i = u at *
      omega
theorem nd_z (z : Int32) : ((0 ≤ z → z.toInt64 = ar_l (z.toInt.natAbs : Int)) ∧ (¬ 0 ≤ z → -z.toInt64 = ar_l (z.toInt.natAbs : Int))) ∧ z.toInt.natAbs ≤ 2147483648 := by
  have hz := ar_zB z
  have h0 : 0 ≤ z ↔ 0 ≤ z.toInt := by rw [Int32.le_iff_toInt_le, show (0 : Int32).toInt = 0 from by decide]
  refine ⟨⟨fun h => ?_, fun h => ?_⟩, by omega⟩
  · rw [h0] at h
    rw [ar_z]
    exact congrArg ar_l (by omega)
  · rw [h0] at h
    rw [ar_z, ar_neg]
    exact congrArg ar_l (by omega)
theorem xt_dig {post : SX → Prop} {z : Int32} (hn : nd_P z.toInt.natAbs n) (h : post (cn, ck, fp, pg, ob, hr, sp, ix, sz, pf, sc, st, kd, pl, wd, tm, dg, dc, ss, pc, op, ox, oy, oz, ps, jp, oi, pa, pt, sh, sg_put lc 0 0 12 (nd_t z.toInt.natAbs n), rc, dr)) : wpX_takeDigits__leftCharacters post (cn, ck, fp, pg, ob, hr, sp, ix, sz, pf, sc, st, kd, pl, wd, tm, dg, dc, ss, pc, op, ox, oy, oz, ps, jp, oi, pa, pt, sh, lc, rc, dr) z := by
  obtain ⟨⟨z1, z2⟩, z3⟩ := nd_z z
  refine br_c (fun c => ?_) (fun c => nm_r (z2 c) ?_)
  · rw [z1 c]
    exact ⟨n + 1, xt_cntL hn (by omega) h n 0 _ _ _ (by omega) rfl (by rw [Nat.pow_zero, Nat.div_one]) rfl⟩
  · exact ⟨n + 1, xt_cntL hn (by omega) h n 0 _ _ _ (by omega) rfl (by rw [Nat.pow_zero, Nat.div_one]) rfl⟩
theorem yt_spL {post : Int32 → SY → Prop} (hn : n ≤ 10) (hm : m < 9000000000000000000) (h : post (nI n) (cn, fp, ck, pf, hr, sp, ix, sc, ye, sz, yj, st, kd, pl, ln, dc, tm, sn, sd, op, ox, oy, oz, sh, sg_put ch 0 0 n (nd_t m n), oth, lw, hg, le, bk, fm, vy)) : ∀ (d i : Nat) (x5 : Int32) (q : Nat → Int32), i + d = n → x5 = nI i → q = sg_put ch 0 0 i (nd_t m n) →
    wY_spell_37 post (ar_l (m : Int)) (nI n) cn fp ck pf hr sp ix sc ye sz yj (d + 1) x5 st kd pl ln dc tm sn sd op ox oy oz sh q oth lw hg le bk fm vy
  | 0, i, x5, q, hd, h5, hq => by
    subst h5 hq
    have e1 : i = n := by omega
    subst e1
    exact br_t (nI_le (Nat.le_refl _) (by omega)) h
  | d + 1, i, x5, q, hd, h5, hq => by
    subst h5 hq
    have e1 : (nI n - 1) - nI i = nI (n - 1 - i) := by
      obtain ⟨c, rfl⟩ : ∃ c, n = c + 1 := ⟨n - 1, by omega⟩
      rw [nI_pred, pk_sub (by omega), Nat.add_sub_cancel]
    have hp : 10 ^ (n - 1 - i) ≤ 10 ^ 18 := ar_ple (by omega)
    have hd2 : m / 10 ^ (n - 1 - i) ≤ m := Nat.div_le_self _ _
    refine br_f (nI_ge (by omega) (by omega)) ?_
    rw [e1]
    refine yw_ten (by omega) ⟨ar_n0 (ar_pp _) (Nat.lt_of_le_of_lt hp (by decide)), by decide, vp_in_nI (by omega) (by decide), ?_⟩
    rw [ar_dv (by omega) (Nat.lt_of_le_of_lt hp (by decide)), ar_i10 (by omega), nI_clamp (show i < 2 ^ 31 by omega)]
    refine nm_e (nm_e (yt_spL hn hm h d (i + 1) _ _ (by omega) (nI_1 i) ?_))
    have up := sg_up0 ch i (nd_t m n)
    rw [← up]
    unfold nd_t
    rw [if_pos (by omega)]
theorem yt_cntL {post : Int32 → SY → Prop} (hn : nd_P m n) (hm : m < 9000000000000000000) (h : post (nI n) (cn, fp, ck, pf, hr, sp, ix, sc, ye, sz, yj, st, kd, pl, ln, dc, tm, sn, sd, op, ox, oy, oz, sh, sg_put ch 0 0 n (nd_t m n), oth, lw, hg, le, bk, fm, vy)) : ∀ (d i : Nat) (x4 : Int32), i + d = n → 1 ≤ i → x4 = nI i →
    wY_spell_16 post (ar_l (m : Int)) cn fp ck pf hr sp ix sc ye sz yj st kd pl ln dc tm sn sd op ox oy oz sh ch oth lw hg le bk fm vy (d + 1) x4
  | 0, i, x4, hd, h1, h4 => by
    subst h4
    obtain ⟨n1, n2, n3, n4⟩ := hn
    have e1 : i = n := by omega
    subst e1
    have hp : 10 ^ i ≤ 10 ^ 18 := ar_ple (by omega)
    refine yw_ten (by omega) ⟨ar_n0 (ar_pp _) (Nat.lt_of_le_of_lt hp (by decide)), ?_⟩
    rw [ar_dv (by omega) (Nat.lt_of_le_of_lt hp (by decide)), n3]
    exact br_t (by decide) ⟨i + 1, yt_spL n2 hm h i 0 _ _ (by omega) rfl (sg_0 _ _ _ _).symm⟩
  | d + 1, i, x4, hd, h1, h4 => by
    subst h4
    have hn0 := hn
    obtain ⟨n1, n2, n3, n4⟩ := hn0
    have hp : 10 ^ i ≤ 10 ^ 18 := ar_ple (by omega)
    have hq : m / 10 ^ i ≤ m := Nat.div_le_self _ _
    refine yw_ten (by omega) ⟨ar_n0 (ar_pp _) (Nat.lt_of_le_of_lt hp (by decide)), ?_⟩
    rw [ar_dv (by omega) (Nat.lt_of_le_of_lt hp (by decide))]
    refine br_f ?_ (nm_e (yt_cntL hn hm h d (i + 1) _ (by omega) (by omega) (nI_1 i)))
    have := n4 i h1 (by omega)
    rw [ar_0, ar_le (ar_nB (by omega)) ar_B0]
    generalize m / 10 ^ i = u at *
    omega
theorem yt_spell {post : Int32 → SY → Prop} {z : Int32} (hn : nd_P z.toInt.natAbs n) (h : post (nI n) (cn, fp, ck, pf, hr, sp, ix, sc, ye, sz, yj, st, kd, pl, ln, dc, tm, sn, sd, op, ox, oy, oz, sh, sg_put ch 0 0 n (nd_t z.toInt.natAbs n), oth, lw, hg, le, bk, fm, vy)) : wpY_spell post (cn, fp, ck, pf, hr, sp, ix, sc, ye, sz, yj, st, kd, pl, ln, dc, tm, sn, sd, op, ox, oy, oz, sh, ch, oth, lw, hg, le, bk, fm, vy) z := by
  obtain ⟨⟨z1, z2⟩, z3⟩ := nd_z z
  have n1 := hn.1
  refine br_c (fun c => ?_) (fun c => nm_r (z2 c) ?_)
  · rw [z1 c]
    exact ⟨n - 1 + 1, yt_cntL hn (by omega) h (n - 1) 1 _ (by omega) (by omega) rfl⟩
  · exact ⟨n - 1 + 1, yt_cntL hn (by omega) h (n - 1) 1 _ (by omega) (by omega) rfl⟩
end
