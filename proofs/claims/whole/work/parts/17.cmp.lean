/-! IF: NUMERIC, comparing characters, comparing values, the six relations -/
section
variable {cn ck fp pg ob hr sp ix sz pf sc ye yj : Int32}
variable {st kd pl wd tm dg dc ss pc op ox oy oz ps jp oi pa pt sh lc rc dr ln sn sd ch oth lw hg le bk fm vy : Nat → Int32}
variable {K A W T D B S L e j F M m has N n c : Nat} {s : Bool} {V : Int} {x z : Int32} {d : Nat}
theorem nu_L (hj : j < 12) (hw : wd j = nI W) (hF : F + W ≤ 96) (hS : S ≤ W) (hW : W ≤ 13) (hch : ∀ i, i < W - S → ch i = st (F + S + i)) : ∀ (d k : Nat), S + k + d = W → ∃ r : Int32, (r = 0 ∨ r = 1) ∧
    (∀ post, post r → wX_isNumeric_13 post (nI j) (nI F) cn ck fp pg ob hr sp ix sz pf sc st kd pl wd tm dg dc ss pc op ox oy oz ps jp oi pa pt sh lc rc dr (d + 1) (nI (S + k))) ∧ (∀ post, post r (cn, fp, ck, pf, hr, sp, ix, sc, ye, sz, yj, st, kd, pl, ln, dc, tm, sn, sd, op, ox, oy, oz, sh, ch, oth, lw, hg, le, bk, fm, vy) → wY_numeric_9 post (nI (W - S)) cn fp ck pf hr sp ix sc ye sz yj st kd pl ln dc tm sn sd op ox oy oz sh ch oth lw hg le bk fm vy (d + 1) (nI k))
  | 0, k, hd => by
    refine ⟨1, Or.inr rfl, fun post hp => ⟨vp_in_nI hj (by decide), ?_⟩, fun post hp => br_t (nI_le (by omega) (by omega)) hp⟩
    rw [nI_clamp (show j < 2 ^ 31 by omega), hw]
    exact br_t (nI_le (by omega) (by omega)) hp
  | d + 1, k, hd => by
    have v : vp_in (nI j) 12 := vp_in_nI hj (by decide)
    have v2 : vp_in (nI (F + (S + k))) 96 := vp_in_nI (by omega) (by decide)
    have v3 : vp_in (nI k) 32 := vp_in_nI (by omega) (by decide)
    have eA : F + S + k = F + (S + k) := by omega
    by_cases hc : st (F + (S + k)) ≤ 9
    · obtain ⟨r, hr1, hX, hY⟩ := nu_L hj hw hF hS hW hch d (k + 1) (by omega)
      refine ⟨r, hr1, fun post hp => ⟨v, ?_⟩, fun post hp => br_f (nI_ge (by omega) (by omega)) ⟨v3, ?_⟩⟩
      · rw [nI_clamp (show j < 2 ^ 31 by omega), hw]
        refine br_f (nI_ge (by omega) (by omega)) ?_
        rw [nI_add, nI_clamp (show F + (S + k) < 2 ^ 31 by omega)]
        exact ⟨v2, br_t hc (nm_r (nI_1 _) (hX post hp))⟩
      · rw [nI_clamp (show k < 2 ^ 31 by omega), hch k (by omega), eA]
        exact br_t hc (nm_r (nI_1 _) (hY post hp))
    · refine ⟨0, Or.inl rfl, fun post hp => ⟨v, ?_⟩, fun post hp => br_f (nI_ge (by omega) (by omega)) ⟨v3, ?_⟩⟩
      · rw [nI_clamp (show j < 2 ^ 31 by omega), hw]
        refine br_f (nI_ge (by omega) (by omega)) ?_
        rw [nI_add, nI_clamp (show F + (S + k) < 2 ^ 31 by omega)]
        exact ⟨v2, br_f hc hp⟩
      · rw [nI_clamp (show k < 2 ^ 31 by omega), hch k (by omega), eA]
        exact br_f hc hp
theorem nu_pair (hj : j < 12) (R : it_R kd pl wd tm dg dc ss pc ln sn sd j K A W T D B S L) (hx : it_X ix T e) : ∃ (r : Int32) (ch' : Nat → Int32), (r = 0 ∨ r = 1) ∧
    (∀ post, post r → wpX_isNumeric post (cn, ck, fp, pg, ob, hr, sp, ix, sz, pf, sc, st, kd, pl, wd, tm, dg, dc, ss, pc, op, ox, oy, oz, ps, jp, oi, pa, pt, sh, lc, rc, dr) (nI j)) ∧ (∀ post, post r (cn, fp, ck, pf, hr, sp, ix, sc, ye, sz, yj, st, kd, pl, ln, dc, tm, sn, sd, op, ox, oy, oz, sh, ch', oth, lw, hg, le, bk, fm, vy) → wpY_numeric post (cn, fp, ck, pf, hr, sp, ix, sc, ye, sz, yj, st, kd, pl, ln, dc, tm, sn, sd, op, ox, oy, oz, sh, ch, oth, lw, hg, le, bk, fm, vy) (nI j)) := by
  have R0 := R
  obtain ⟨⟨r1, r2, r3, r4, r5, r6, r7, r8⟩, ⟨k1, k2, k3, k4, k5, k6, k7, k8, k9, k10, k11⟩, -, -, -⟩ := R0
  have hF : A + (e - 1) * W + W ≤ 96 := it_F k8 hx.1 hx.2.1
  have hW := it_W12 R
  obtain ⟨r, hr1, hX, hY⟩ := nu_L (cn := cn) (ck := ck) (fp := fp) (pg := pg) (ob := ob) (hr := hr) (sp := sp) (ix := ix) (sz := sz) (pf := pf) (sc := sc) (ye := ye) (yj := yj) (st := st) (kd := kd) (pl := pl) (wd := wd) (tm := tm) (dg := dg) (dc := dc) (ss := ss) (pc := pc) (op := op) (ox := ox) (oy := oy) (oz := oz) (ps := ps) (jp := jp) (oi := oi) (pa := pa) (pt := pt) (sh := sh) (lc := lc) (rc := rc) (dr := dr) (ln := ln) (sn := sn) (sd := sd) (ch := sg_put ch 0 0 (W - S) (fun i => st (A + (e - 1) * W + S + i))) (oth := oth) (lw := lw) (hg := hg) (le := le) (bk := bk) (fm := fm) (vy := vy) (S := S) (F := A + (e - 1) * W) hj r3 hF (by omega) (by omega) (fun i hi => sg_in0 _ _ _ _ (Nat.zero_le _) hi) (W - S) 0 (by omega)
  refine ⟨r, sg_put ch 0 0 (W - S) (fun i => st (A + (e - 1) * W + S + i)), hr1, fun post hp => ?_, fun post hp => ?_⟩
  · unfold wpX_isNumeric
    refine xi_place hj R hx ?_
    refine ⟨vp_in_nI hj (by decide), ?_⟩
    rw [nI_clamp (show j < 2 ^ 31 by omega), r7]
    exact nm_e ⟨_, hX _ hp⟩
  · unfold wpY_numeric
    exact yt_take (sk := S) hj R hx (Or.inl ⟨rfl, rfl⟩) ⟨_, hY _ hp⟩
theorem ct_L {a b : Nat → Int32} {m k : Nat} (hm : m ≤ 12) (hk : k ≤ 12) (ha : ∀ i, i < 12 → lc i = a i) (hb : ∀ i, i < 12 → rc i = b i) (ha1 : ∀ i, i < m → oth i = a i) (ha2 : ∀ i, m ≤ i → a i = 10) (hb1 : ∀ i, i < k → ch i = b i) (hb2 : ∀ i, k ≤ i → b i = 10) :
    ∀ (d i : Nat), i + d = 12 → ∃ r : Int32, (r = 0 ∨ r = 1 ∨ r = -1) ∧ (∀ post, post r (cn, ck, fp, pg, ob, hr, sp, ix, sz, pf, sc, st, kd, pl, wd, tm, dg, dc, ss, pc, op, ox, oy, oz, ps, jp, oi, pa, pt, sh, lc, rc, dr) → wX_orderOfCharacters_20 post cn ck fp pg ob hr sp ix sz pf sc st kd pl wd tm dg dc ss pc op ox oy oz ps jp oi pa pt sh lc rc dr (d + 1) (nI i)) ∧ (∀ post, post r (cn, fp, ck, pf, hr, sp, ix, sc, ye, sz, yj, st, kd, pl, ln, dc, tm, sn, sd, op, ox, oy, oz, sh, ch, oth, lw, hg, le, bk, fm, vy) → wY_compareTexts_47 post (nI m) (nI k) cn fp ck pf hr sp ix sc ye sz yj st kd pl ln dc tm sn sd op ox oy oz sh ch oth lw hg le bk fm vy (d + 1) (nI i))
  | 0, i, hd => by
    have e1 : i = 12 := by omega
    subst e1
    exact ⟨0, Or.inl rfl, fun post hp => br_t (by decide) hp, fun post hp => br_t (by decide) hp⟩
  | d + 1, i, hd => by
    have v : vp_in (nI i) 12 := vp_in_nI (by omega) (by decide)
    have v3 : vp_in (nI i) 32 := vp_in_nI (by omega) (by decide)
    have ci : (nI i).toNatClampNeg = i := nI_clamp (by omega)
    have h12 : ¬ (12 : Int32) ≤ nI i := nI_ge (b := 12) (by omega) (by decide)
    -- the reference's two characters are a i and b i
    have hYY : ∀ (post : Int32 → SY → Prop) (J : Int32 → Prop), wY_compareTexts_93 post J (nI m) (nI k) (nI i) (a i) (b i) cn fp ck pf hr sp ix sc ye sz yj st kd pl ln dc tm sn sd op ox oy oz sh ch oth lw hg le bk fm vy → (nI m ≤ nI i → wY_compareTexts_72 post J (nI m) (nI k) (nI i) 10 cn fp ck pf hr sp ix sc ye sz yj st kd pl ln dc tm sn sd op ox oy oz sh ch oth lw hg le bk fm vy) ∧ (¬ nI m ≤ nI i → vp_in (nI i) 32 ∧ wY_compareTexts_72 post J (nI m) (nI k) (nI i) (oth (nI i).toNatClampNeg) cn fp ck pf hr sp ix sc ye sz yj st kd pl ln dc tm sn sd op ox oy oz sh ch oth lw hg le bk fm vy) := by
      intro post J h
      have h72 : wY_compareTexts_72 post J (nI m) (nI k) (nI i) (a i) cn fp ck pf hr sp ix sc ye sz yj st kd pl ln dc tm sn sd op ox oy oz sh ch oth lw hg le bk fm vy := by
        by_cases c : i < k
        · refine br_f (nI_ge c (by omega)) ⟨v3, ?_⟩
          rw [ci, hb1 i c]
          exact h
        · rw [hb2 i (by omega)] at h
          exact br_t (nI_le (by omega) (by omega)) h
      by_cases c : i < m
      · refine br_f (nI_ge c (by omega)) ⟨v3, ?_⟩
        rw [ci, ha1 i c]
        exact h72
      · rw [ha2 i (by omega)] at h72
        exact br_t (nI_le (by omega) (by omega)) h72
    by_cases hab : a i = b i
    · obtain ⟨r, hr1, hX, hY⟩ := ct_L hm hk ha hb ha1 ha2 hb1 hb2 d (i + 1) (by omega)
      refine ⟨r, hr1, fun post hp => br_f h12 ⟨v, v, ?_⟩, fun post hp => br_f h12 (hYY _ _ (br_t hab (nm_r (nI_1 _) (hY post hp))))⟩
      rw [ci, ha i (by omega), hb i (by omega)]
      exact br_t hab (nm_r (nI_1 _) (hX post hp))
    · by_cases hlt : b i ≤ a i
      · refine ⟨1, Or.inr (Or.inl rfl), fun post hp => br_f h12 ⟨v, v, ?_⟩, fun post hp => br_f h12 (hYY _ _ (br_f hab (br_t hlt hp)))⟩
        rw [ci, ha i (by omega), hb i (by omega)]
        exact br_f hab ⟨v, v, br_t hlt hp⟩
      · refine ⟨-1, Or.inr (Or.inr rfl), fun post hp => br_f h12 ⟨v, v, ?_⟩, fun post hp => br_f h12 (hYY _ _ (br_f hab (br_f hlt hp)))⟩
        rw [ci, ha i (by omega), hb i (by omega)]
        exact br_f hab ⟨v, v, br_f hlt hp⟩
theorem ct_cp {post : Int32 → SY → Prop} {y : Int32} {m : Nat} (hm : m ≤ 12) (h : wpY_take (fun r u => match u with | (cn, fp, ck, pf, hr, sp, ix, sc, ye, sz, yj, st, kd, pl, ln, dc, tm, sn, sd, op, ox, oy, oz, sh, ch, oth, lw, hg, le, bk, fm, vy) => ∃ n47 : Nat, wY_compareTexts_47 post (nI m) r cn fp ck pf hr sp ix sc ye sz yj st kd pl ln dc tm sn sd op ox oy oz sh ch oth lw hg le bk fm vy n47 0) (cn, fp, ck, pf, hr, sp, ix, sc, ye, sz, yj, st, kd, pl, ln, dc, tm, sn, sd, op, ox, oy, oz, sh, ch, sg_put oth 0 0 m ch, lw, hg, le, bk, fm, vy) y 0) : ∀ (d i : Nat) (x4 : Int32) (q : Nat → Int32), i + d = m → x4 = nI i → q = sg_put oth 0 0 i ch →
    wY_compareTexts_10 post y (nI m) cn fp ck pf hr sp ix sc ye sz yj (d + 1) x4 st kd pl ln dc tm sn sd op ox oy oz sh ch q lw hg le bk fm vy
  | 0, i, x4, q, hd, h4, hq => by
    subst h4 hq
    have e1 : i = m := by omega
    subst e1
    exact br_t (nI_le (Nat.le_refl _) (by omega)) h
  | d + 1, i, x4, q, hd, h4, hq => by
    subst h4 hq
    have v3 : vp_in (nI i) 32 := vp_in_nI (by omega) (by decide)
    refine br_f (nI_ge (by omega) (by omega)) ⟨v3, v3, ?_⟩
    rw [nI_clamp (show i < 2 ^ 31 by omega)]
    exact nm_r (sg_up0 oth i ch) (nm_e (ct_cp hm h d (i + 1) _ _ (by omega) (nI_1 i) rfl))
theorem ct_pair {j' K' A' W' T' D' B' S' L' e' : Nat} (hj : j < 12) (R : it_R kd pl wd tm dg dc ss pc ln sn sd j K A W T D B S L) (hx : it_X ix T e) (hj' : j' < 12) (R' : it_R kd pl wd tm dg dc ss pc ln sn sd j' K' A' W' T' D' B' S' L') (hx' : it_X ix T' e') :
    ∃ (r : Int32) (lc' rc' ch' oth' : Nat → Int32), (r = 0 ∨ r = 1 ∨ r = -1) ∧ (∀ post, post r (cn, ck, fp, pg, ob, hr, sp, ix, sz, pf, sc, st, kd, pl, wd, tm, dg, dc, ss, pc, op, ox, oy, oz, ps, jp, oi, pa, pt, sh, lc', rc', dr) → wpX_orderOfCharacters post (cn, ck, fp, pg, ob, hr, sp, ix, sz, pf, sc, st, kd, pl, wd, tm, dg, dc, ss, pc, op, ox, oy, oz, ps, jp, oi, pa, pt, sh, lc, rc, dr) (nI j) (nI j')) ∧ (∀ post, post r (cn, fp, ck, pf, hr, sp, ix, sc, ye, sz, yj, st, kd, pl, ln, dc, tm, sn, sd, op, ox, oy, oz, sh, ch', oth', lw, hg, le, bk, fm, vy) → wpY_compareTexts post (cn, fp, ck, pf, hr, sp, ix, sc, ye, sz, yj, st, kd, pl, ln, dc, tm, sn, sd, op, ox, oy, oz, sh, ch, oth, lw, hg, le, bk, fm, vy) (nI j) (nI j')) := by
  have hW := it_W12 R
  have hW' := it_W12 R'
  have hin : ∀ (f g : Nat → Int32) (h0 : Nat) i, i < h0 → sg_put g 0 0 h0 f i = f i := fun f g h0 i hi => sg_in0 _ _ _ _ (Nat.zero_le _) hi
  obtain ⟨r, hr1, hX, hY⟩ := ct_L (cn := cn) (ck := ck) (fp := fp) (pg := pg) (ob := ob) (hr := hr) (sp := sp) (ix := ix) (sz := sz) (pf := pf) (sc := sc) (ye := ye) (yj := yj) (st := st) (kd := kd) (pl := pl) (wd := wd) (tm := tm) (dg := dg) (dc := dc) (ss := ss) (pc := pc) (op := op) (ox := ox) (oy := oy) (oz := oz) (ps := ps) (jp := jp) (oi := oi) (pa := pa) (pt := pt) (sh := sh) (lc := sg_put lc 0 0 12 (tx_c st (A + (e - 1) * W + S) (W - S))) (rc := sg_put rc 0 0 12 (tx_c st (A' + (e' - 1) * W' + S') (W' - S'))) (dr := dr) (ln := ln) (sn := sn) (sd := sd) (ch := sg_put (sg_put ch 0 0 (W - S) (fun i => st (A + (e - 1) * W + S + i))) 0 0 (W' - S') (fun i => st (A' + (e' - 1) * W' + S' + i))) (oth := sg_put oth 0 0 (W - S) (sg_put ch 0 0 (W - S) (fun i => st (A + (e - 1) * W + S + i)))) (lw := lw) (hg := hg) (le := le) (bk := bk) (fm := fm) (vy := vy)
    (a := tx_c st (A + (e - 1) * W + S) (W - S)) (b := tx_c st (A' + (e' - 1) * W' + S') (W' - S')) (m := W - S) (k := W' - S') (by omega) (by omega) (fun i hi => hin _ _ _ _ hi) (fun i hi => hin _ _ _ _ hi)
    (fun i hi => by rw [hin _ _ _ _ hi, hin _ _ _ _ hi]; exact (if_pos hi).symm) (fun i hi => if_neg (by omega)) (fun i hi => by rw [hin _ _ _ _ hi]; exact (if_pos hi).symm) (fun i hi => if_neg (by omega)) 12 0 (by omega)
  refine ⟨r, sg_put lc 0 0 12 (tx_c st (A + (e - 1) * W + S) (W - S)), sg_put rc 0 0 12 (tx_c st (A' + (e' - 1) * W' + S') (W' - S')), sg_put (sg_put ch 0 0 (W - S) (fun i => st (A + (e - 1) * W + S + i))) 0 0 (W' - S') (fun i => st (A' + (e' - 1) * W' + S' + i)), sg_put oth 0 0 (W - S) (sg_put ch 0 0 (W - S) (fun i => st (A + (e - 1) * W + S + i))), hr1, fun post hp => ?_, fun post hp => ?_⟩
  · unfold wpX_orderOfCharacters
    exact xt_left hj R hx (xt_right hj' R' hx' ⟨_, hX _ hp⟩)
  · unfold wpY_compareTexts
    refine yt_take (sk := S) hj R hx (Or.inl ⟨rfl, rfl⟩) ⟨W - S + 1, ct_cp (by omega) ?_ (W - S) 0 _ _ (by omega) rfl (sg_0 _ _ _ _).symm⟩
    exact yt_take (sk := S') hj' R' hx' (Or.inl ⟨rfl, rfl⟩) ⟨_, hY _ hp⟩
/-- comparing two numbers -/
theorem cv_pair {j' K' A' W' T' D' B' S' L' e' : Nat} (ok : st_ok st) (hj : j < 12) (R : it_R kd pl wd tm dg dc ss pc ln sn sd j K A W T D B S L) (hx : it_X ix T e) (hj' : j' < 12) (R' : it_R kd pl wd tm dg dc ss pc ln sn sd j' K' A' W' T' D' B' S' L') (hx' : it_X ix T' e') :
    ∃ r : Int32, (r = 0 ∨ r = 1 ∨ r = -1) ∧ (∀ post, post r → wpX_orderOfValues post (cn, ck, fp, pg, ob, hr, sp, ix, sz, pf, sc, st, kd, pl, wd, tm, dg, dc, ss, pc, op, ox, oy, oz, ps, jp, oi, pa, pt, sh, lc, rc, dr) (nI j) (nI j')) ∧ (∀ post, post r → wpY_compareValues post (cn, fp, ck, pf, hr, sp, ix, sc, ye, sz, yj, st, kd, pl, ln, dc, tm, sn, sd, op, ox, oy, oz, sh, ch, oth, lw, hg, le, bk, fm, vy) (nI j) (nI j')) := by
  obtain ⟨V, hV⟩ : ∃ V, V = vl_v st K (A + (e - 1) * W) W S := ⟨_, rfl⟩
  obtain ⟨V', hV'⟩ : ∃ V', V' = vl_v st K' (A' + (e' - 1) * W') W' S' := ⟨_, rfl⟩
  have O : od_P ix st kd pl wd tm dg dc ss pc ln sn sd (nI j) 0 V B := Or.inr ⟨j, K, A, W, T, D, B, S, L, e, hj, rfl, R, hx, hV, rfl⟩
  have O' : od_P ix st kd pl wd tm dg dc ss pc ln sn sd (nI j') 0 V' B' := Or.inr ⟨j', K', A', W', T', D', B', S', L', e', hj', rfl, R', hx', hV', rfl⟩
  have b1 : V.natAbs < 1000000000 := by rw [hV, vl_nn]; exact vl_lt st K _ W S (fun w => by have := (R.2.2.1 w).2.1; have := R.2.1.2.2.2.2.2.2.1; omega)
  have b2 : V'.natAbs < 1000000000 := by rw [hV', vl_nn]; exact vl_lt st K' _ W' S' (fun w => by have := (R'.2.2.1 w).2.1; have := R'.2.1.2.2.2.2.2.2.1; omega)
  have b3 := (od_b O).2
  have b4 := (od_b O').2
  have r6 := R.1.2.2.2.2.2.1
  have r6' := R'.1.2.2.2.2.2.1
  have v : vp_in (nI j) 12 := vp_in_nI hj (by decide)
  have v' : vp_in (nI j') 12 := vp_in_nI hj' (by decide)
  have cj : (nI j).toNatClampNeg = j := nI_clamp (by omega)
  have cj' : (nI j').toNatClampNeg = j' := nI_clamp (by omega)
  have bnd : ∀ (U : Int) (k : Nat), U.natAbs < 1000000000 → k ≤ 9 → ar_B (U * ((10 ^ k : Nat) : Int)) := by
    intro U k hU hk
    have h1 : (U * ((10 ^ k : Nat) : Int)).natAbs ≤ 1000000000 * 1000000000 := by
      rw [Int.natAbs_mul, Int.natAbs_natCast]
      exact Nat.mul_le_mul (by omega) (cp_p9 hk)
    exact ⟨by omega, by omega⟩
  obtain ⟨f, hf1, hf2, hf3, hfX, hfY⟩ : ∃ f : Nat, B ≤ f ∧ B' ≤ f ∧ f ≤ 9 ∧ (B ≤ B' → f = B') ∧ (¬ B ≤ B' → f = B) := by
    by_cases h : B ≤ B'
    · exact ⟨B', h, Nat.le_refl _, b4, fun _ => rfl, fun w => absurd h w⟩
    · exact ⟨B, Nat.le_refl _, by omega, b3, fun w => absurd w h, fun _ => rfl⟩
  have c1 := cm_sc (a := V) (b := V') hf1 hf2 hf3
  have c2 := cm_sc (a := V') (b := V) hf2 hf1 hf3
  -- one answer for both
  have key : ∃ r : Int32, (r = 0 ∨ r = 1 ∨ r = -1) ∧ (∀ post : Int32 → Prop, post r → ((ar_l (V' * ((10 ^ (f - B') : Nat) : Int)) ≤ ar_l (V * ((10 ^ (f - B) : Nat) : Int)) → ((ar_l (V * ((10 ^ (f - B) : Nat) : Int)) ≤ ar_l (V' * ((10 ^ (f - B') : Nat) : Int)) → post 0) ∧ (¬ ar_l (V * ((10 ^ (f - B) : Nat) : Int)) ≤ ar_l (V' * ((10 ^ (f - B') : Nat) : Int)) → post 1))) ∧ (¬ ar_l (V' * ((10 ^ (f - B') : Nat) : Int)) ≤ ar_l (V * ((10 ^ (f - B) : Nat) : Int)) → post (-1)))) ∧
      (∀ post : Int32 → Prop, post r → ((ar_l (V' * ((10 ^ (9 - B') : Nat) : Int)) ≤ ar_l (V * ((10 ^ (9 - B) : Nat) : Int)) → ((ar_l (V * ((10 ^ (9 - B) : Nat) : Int)) ≤ ar_l (V' * ((10 ^ (9 - B') : Nat) : Int)) → post 0) ∧ (¬ ar_l (V * ((10 ^ (9 - B) : Nat) : Int)) ≤ ar_l (V' * ((10 ^ (9 - B') : Nat) : Int)) → post 1))) ∧ (¬ ar_l (V' * ((10 ^ (9 - B') : Nat) : Int)) ≤ ar_l (V * ((10 ^ (9 - B) : Nat) : Int)) → post (-1)))) := by
    rw [ar_le (bnd V' (f - B') b2 (by omega)) (bnd V (f - B) b1 (by omega)), ar_le (bnd V (f - B) b1 (by omega)) (bnd V' (f - B') b2 (by omega)), ar_le (bnd V' (9 - B') b2 (by omega)) (bnd V (9 - B) b1 (by omega)), ar_le (bnd V (9 - B) b1 (by omega)) (bnd V' (9 - B') b2 (by omega))]
    by_cases h1 : V * ((10 ^ (f - B) : Nat) : Int) < V' * ((10 ^ (f - B') : Nat) : Int)
    · have h1' := c1.mpr h1
      exact ⟨-1, Or.inr (Or.inr rfl), fun post hp => br_f (by omega) hp, fun post hp => br_f (by omega) hp⟩
    · have h1' := fun w => h1 (c1.mp w)
      by_cases h2 : V' * ((10 ^ (f - B') : Nat) : Int) < V * ((10 ^ (f - B) : Nat) : Int)
      · have h2' := c2.mpr h2
        exact ⟨1, Or.inr (Or.inl rfl), fun post hp => br_t (by omega) (br_f (by omega) hp), fun post hp => br_t (by omega) (br_f (by omega) hp)⟩
      · have h2' := fun w => h2 (c2.mp w)
        exact ⟨0, Or.inl rfl, fun post hp => br_t (by omega) (br_t (by omega) hp), fun post hp => br_t (by omega) (br_t (by omega) hp)⟩
  obtain ⟨r, hr1, kX, kY⟩ := key
  refine ⟨r, hr1, fun post hp => ⟨v, v', ?_⟩, fun post hp => ?_⟩
  · have h30 : wX_orderOfValues_30 post (nI j) (nI j') (nI f) cn ck fp pg ob hr sp ix sz pf sc st kd pl wd tm dg dc ss pc op ox oy oz ps jp oi pa pt sh lc rc dr := by
      unfold wX_orderOfValues_30
      refine xo_val ok O ?_
      refine xo_val ok O' ?_
      refine ⟨v, ?_⟩
      rw [cj, r6, pk_sub hf1]
      refine xw_len (by omega) ⟨v', ?_⟩
      rw [cj', r6', pk_sub hf2]
      exact xw_len (by omega) (kX post hp)
    rw [cj, cj', r6, r6']
    by_cases hB : B ≤ B'
    · rw [hfX hB] at h30
      exact br_t (nI_le hB (by omega)) ⟨v', h30⟩
    · rw [hfY hB] at h30
      exact br_f (nI_ge (by omega) (by omega)) ⟨v, h30⟩
  · subst hV hV'
    unfold wpY_compareValues
    refine yi_elem hj R hx ?_
    refine yv_value hj R hx.1 hx.2.1 ok ?_
    refine ⟨v, ?_⟩
    rw [cj, r6, show (9 : Int32) = nI 9 from rfl, pk_sub b3]
    refine yw_ten (by omega) (nm_r (ar_mul _ _) ?_)
    refine yi_elem hj' R' hx' ?_
    refine yv_value hj' R' hx'.1 hx'.2.1 ok ?_
    refine ⟨v', ?_⟩
    rw [cj', r6', pk_sub b4]
    exact yw_ten (by omega) (nm_r (ar_mul _ _) (kY post hp))
end
