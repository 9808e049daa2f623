/-! DISPLAY, TALLY, SET INDEX, NUMERIC and comparing -/
def dp_f (sh : Nat → Int32) (c : Nat) (st : Nat → Int32) (F : Nat) : Nat → Nat → Int32
  | 0 => sh
  | i + 1 => if c + i < 96 then upd (dp_f sh c st F i) (c + i) (st (F + i)) else dp_f sh c st F i
section
variable {cn ck fp pg ob hr sp ix sz pf sc ye yj : Int32}
variable {st kd pl wd tm dg dc ss pc op ox oy oz ps jp oi pa pt sh lc rc dr ln sn sd ch oth lw hg le bk fm vy : Nat → Int32}
variable {K A W T D B S L e j F M m has N n c : Nat} {s : Bool} {V : Int} {x z : Int32} {d : Nat}
theorem dp_xL {post : SX → Prop} (hj : j < 12) (hw : wd j = nI W) (hF : F + W ≤ 96) (hc : c < 1000000) (h : post (cn, ck, fp, pg, ob, hr, sp, ix, sz, pf, nI (c + W), st, kd, pl, wd, tm, dg, dc, ss, pc, op, ox, oy, oz, ps, jp, oi, pa, pt, dp_f sh c st F W, lc, rc, dr)) : ∀ (d i : Nat) (x3 f : Int32) (q : Nat → Int32), i + d = W → x3 = nI i → f = nI (c + i) → q = dp_f sh c st F i →
    wX_display_15 post (nI j) (nI F) cn ck fp pg ob hr sp ix sz pf (d + 1) x3 f st kd pl wd tm dg dc ss pc op ox oy oz ps jp oi pa pt q lc rc dr
  | 0, i, x3, f, q, hd, h3, hf, hq => by
    subst h3 hf hq
    have e1 : i = W := by omega
    subst e1
    refine ⟨vp_in_nI hj (by decide), ?_⟩
    rw [nI_clamp (show j < 2 ^ 31 by omega), hw]
    exact br_t (nI_le (Nat.le_refl _) (by omega)) h
  | d + 1, i, x3, f, q, hd, h3, hf, hq => by
    subst h3 hf hq
    refine ⟨vp_in_nI hj (by decide), ?_⟩
    rw [nI_clamp (show j < 2 ^ 31 by omega), hw]
    refine br_f (nI_ge (by omega) (by omega)) ?_
    have e2 : dp_f sh c st F (i + 1) = if c + i < 96 then upd (dp_f sh c st F i) (c + i) (st (F + i)) else dp_f sh c st F i := rfl
    have go : ∀ q' : Nat → Int32, q' = dp_f sh c st F (i + 1) → wX_display_51 post (wX_display_15 post (nI j) (nI F) cn ck fp pg ob hr sp ix sz pf (d + 1)) (nI j) (nI F) (nI i) cn ck fp pg ob hr sp ix sz pf (nI (c + i)) st kd pl wd tm dg dc ss pc op ox oy oz ps jp oi pa pt q' lc rc dr := fun q' eq =>
      nm_e (nm_e (dp_xL hj hw hF hc h d (i + 1) _ _ _ (by omega) (nI_1 i) (nI_1 _) eq))
    by_cases h9 : c + i < 96
    · rw [if_pos h9] at e2
      refine br_f (nI_ge (b := 96) h9 (by decide)) ?_
      rw [nI_add, nI_clamp (show F + i < 2 ^ 31 by omega), nI_clamp (show c + i < 2 ^ 31 by omega)]
      exact ⟨vp_in_nI (by omega) (by decide), vp_in_nI h9 (by decide), nm_e (go _ e2.symm)⟩
    · rw [if_neg h9] at e2
      exact br_t (nI_le (a := 96) (by omega) (by omega)) (go _ e2.symm)
theorem dp_yL {post : SY → Prop} (hW : W ≤ 12) (hc : c < 1000000) (hch : ∀ i, i < W → ch i = st (F + i)) (h : post (cn, fp, ck, pf, hr, sp, ix, nI (c + W), ye, sz, yj, st, kd, pl, ln, dc, tm, sn, sd, op, ox, oy, oz, dp_f sh c st F W, ch, oth, lw, hg, le, bk, fm, vy)) : ∀ (d i : Nat) (x3 f : Int32) (q : Nat → Int32), i + d = W → x3 = nI i → f = nI (c + i) → q = dp_f sh c st F i →
    wY_display_9 post (nI W) cn fp ck pf hr sp ix ye sz yj (d + 1) x3 f st kd pl ln dc tm sn sd op ox oy oz q ch oth lw hg le bk fm vy
  | 0, i, x3, f, q, hd, h3, hf, hq => by
    subst h3 hf hq
    have e1 : i = W := by omega
    subst e1
    exact br_t (nI_le (Nat.le_refl _) (by omega)) h
  | d + 1, i, x3, f, q, hd, h3, hf, hq => by
    subst h3 hf hq
    refine br_f (nI_ge (by omega) (by omega)) ?_
    have e2 : dp_f sh c st F (i + 1) = if c + i < 96 then upd (dp_f sh c st F i) (c + i) (st (F + i)) else dp_f sh c st F i := rfl
    have go : ∀ q' : Nat → Int32, q' = dp_f sh c st F (i + 1) → wY_display_38 post (wY_display_9 post (nI W) cn fp ck pf hr sp ix ye sz yj (d + 1)) (nI W) (nI i) cn fp ck pf hr sp ix (nI (c + i)) ye sz yj st kd pl ln dc tm sn sd op ox oy oz q' ch oth lw hg le bk fm vy := fun q' eq =>
      nm_e (nm_e (dp_yL hW hc hch h d (i + 1) _ _ _ (by omega) (nI_1 i) (nI_1 _) eq))
    by_cases h9 : c + i < 96
    · rw [if_pos h9] at e2
      refine br_f (nI_ge (b := 96) h9 (by decide)) ?_
      rw [nI_clamp (show i < 2 ^ 31 by omega), nI_clamp (show c + i < 2 ^ 31 by omega), hch i (by omega)]
      exact ⟨vp_in_nI (by omega) (by decide), vp_in_nI h9 (by decide), nm_e (go _ e2.symm)⟩
    · rw [if_neg h9] at e2
      exact br_t (nI_le (a := 96) (by omega) (by omega)) (go _ e2.symm)
theorem it_W12 (R : it_R kd pl wd tm dg dc ss pc ln sn sd j K A W T D B S L) : W ≤ 12 := by
  obtain ⟨-, ⟨k1, k2, k3, k4, k5, k6, k7, k8, k9, k10, k11⟩, q1, q2, -⟩ := R
  by_cases h : K = 1
  · have := (q1 h).2.1; omega
  · have := q2 h; omega
theorem dp_pair (hj : j < 12) (R : it_R kd pl wd tm dg dc ss pc ln sn sd j K A W T D B S L) (hx : it_X ix T e) (hc : c < 1000000) :
    (∀ post, post (cn, ck, fp, pg, ob, hr, sp, ix, sz, pf, nI (c + W), st, kd, pl, wd, tm, dg, dc, ss, pc, op, ox, oy, oz, ps, jp, oi, pa, pt, dp_f sh c st (A + (e - 1) * W) W, lc, rc, dr) → wpX_display post (cn, ck, fp, pg, ob, hr, sp, ix, sz, pf, nI c, st, kd, pl, wd, tm, dg, dc, ss, pc, op, ox, oy, oz, ps, jp, oi, pa, pt, sh, lc, rc, dr) (nI j)) ∧
    (∀ post, post (cn, fp, ck, pf, hr, sp, ix, nI (c + W), ye, sz, yj, st, kd, pl, ln, dc, tm, sn, sd, op, ox, oy, oz, dp_f sh c st (A + (e - 1) * W) W, sg_put ch 0 0 W (fun i => st (A + (e - 1) * W + 0 + i)), oth, lw, hg, le, bk, fm, vy) → wpY_display post (cn, fp, ck, pf, hr, sp, ix, nI c, ye, sz, yj, st, kd, pl, ln, dc, tm, sn, sd, op, ox, oy, oz, sh, ch, oth, lw, hg, le, bk, fm, vy) (nI j)) := by
  have hF : A + (e - 1) * W + W ≤ 96 := it_F R.2.1.2.2.2.2.2.2.2.1 hx.1 hx.2.1
  have hW := it_W12 R
  refine ⟨fun post hp => br_f (nI_16 hj) (xi_place hj R hx ⟨W + 1, dp_xL hj R.1.2.2.1 hF hc hp W 0 _ _ _ (by omega) rfl rfl rfl⟩), fun post hp => ?_⟩
  unfold wpY_display
  refine yt_take (sk := 0) hj R hx (Or.inr ⟨by decide, rfl⟩) ?_
  exact ⟨W + 1, dp_yL hW hc (fun i hi => by rw [sg_in0 _ _ _ _ (Nat.zero_le _) hi, Nat.add_zero]) hp W 0 _ _ _ (by omega) rfl rfl rfl⟩
theorem ty_xL {post : SX → Prop} {y : Int32} (hj : j < 12) (hw : wd j = nI W) (hF : F + W ≤ 96) (h : wpX_store (fun u => match u with | (cn, ck, fp, pg, ob, hr, sp, ix, sz, pf, sc, st, kd, pl, wd, tm, dg, dc, ss, pc, op, ox, oy, oz, ps, jp, oi, pa, pt, sh, lc, rc, dr) => post (cn, ck, fp, pg, ob, hr, sp, ix, sz, pf, sc, st, kd, pl, wd, tm, dg, dc, ss, pc, op, ox, oy, oz, ps, jp, oi, pa, pt, sh, lc, rc, dr)) (cn, ck, fp, pg, ob, hr, sp, ix, sz, pf, sc, st, kd, pl, wd, tm, dg, dc, ss, pc, op, ox, oy, oz, ps, jp, oi, pa, pt, sh, lc, rc, dr) y (ar_l ((tl_c st F z W : Nat) : Int)) 0) : ∀ (d i : Nat) (x5 x6 : Int32), i + d = W → x5 = nI (tl_c st F z i) → x6 = nI i →
    wX_tally_13 post (nI j) y z (nI F) cn ck fp pg ob hr sp ix sz pf sc st kd pl wd tm dg dc ss pc op ox oy oz ps jp oi pa pt sh lc rc dr (d + 1) x5 x6
  | 0, i, x5, x6, hd, h5, h6 => by
    subst h5 h6
    have e1 : i = W := by omega
    subst e1
    have hl := tl_le st F z i
    refine ⟨vp_in_nI hj (by decide), ?_⟩
    rw [nI_clamp (show j < 2 ^ 31 by omega), hw, nI_l (by omega), ar_N]
    exact br_t (nI_le (Nat.le_refl _) (by omega)) h
  | d + 1, i, x5, x6, hd, h5, h6 => by
    subst h5 h6
    refine ⟨vp_in_nI hj (by decide), ?_⟩
    rw [nI_clamp (show j < 2 ^ 31 by omega), hw]
    refine br_f (nI_ge (by omega) (by omega)) ?_
    rw [nI_add, nI_clamp (show F + i < 2 ^ 31 by omega)]
    refine ⟨vp_in_nI (by omega) (by decide), br_c (fun w => nm_e (nm_e (ty_xL hj hw hF h d (i + 1) _ _ (by omega) (by rw [tl_s w]; exact nI_1 _) (nI_1 i)))) (fun w => nm_e (ty_xL hj hw hF h d (i + 1) _ _ (by omega) (by rw [tl_n w]) (nI_1 i)))⟩
theorem ty_yL {post : SY → Prop} {y : Int32} (hW : W ≤ 12) (hch : ∀ i, i < W → ch i = st (F + i)) (h : wpY_element (fun r => wpY_store (fun u => match u with | (cn, fp, ck, pf, hr, sp, ix, sc, ye, sz, yj, st, kd, pl, ln, dc, tm, sn, sd, op, ox, oy, oz, sh, ch, oth, lw, hg, le, bk, fm, vy) => post (cn, fp, ck, pf, hr, sp, ix, sc, ye, sz, yj, st, kd, pl, ln, dc, tm, sn, sd, op, ox, oy, oz, sh, ch, oth, lw, hg, le, bk, fm, vy)) (cn, fp, ck, pf, hr, sp, ix, sc, ye, sz, yj, st, kd, pl, ln, dc, tm, sn, sd, op, ox, oy, oz, sh, ch, oth, lw, hg, le, bk, fm, vy) y r (ar_l ((tl_c st F z W : Nat) : Int)) 0) (cn, fp, ck, pf, hr, sp, ix, sc, ye, sz, yj, st, kd, pl, ln, dc, tm, sn, sd, op, ox, oy, oz, sh, ch, oth, lw, hg, le, bk, fm, vy) y) : ∀ (d i : Nat) (x5 x6 : Int32), i + d = W → x5 = nI (tl_c st F z i) → x6 = nI i →
    wY_tally_14 post y z (nI W) cn fp ck pf hr sp ix sc ye sz yj st kd pl ln dc tm sn sd op ox oy oz sh ch oth lw hg le bk fm vy (d + 1) x5 x6
  | 0, i, x5, x6, hd, h5, h6 => by
    subst h5 h6
    have e1 : i = W := by omega
    subst e1
    have hl := tl_le st F z i
    refine br_t (nI_le (Nat.le_refl _) (by omega)) ?_
    rw [nI_l (by omega), ar_N]
    exact h
  | d + 1, i, x5, x6, hd, h5, h6 => by
    subst h5 h6
    refine br_f (nI_ge (by omega) (by omega)) ?_
    rw [nI_clamp (show i < 2 ^ 31 by omega), hch i (by omega)]
    refine ⟨vp_in_nI (by omega) (by decide), br_c (fun w => nm_e (nm_e (ty_yL hW hch h d (i + 1) _ _ (by omega) (by rw [tl_s w]; exact nI_1 _) (nI_1 i)))) (fun w => nm_e (ty_yL hW hch h d (i + 1) _ _ (by omega) (by rw [tl_n w]) (nI_1 i)))⟩
theorem ty_pair {j' K' A' W' T' D' B' S' L' e' : Nat} (ok : st_ok st) (hj : j < 12) (R : it_R kd pl wd tm dg dc ss pc ln sn sd j K A W T D B S L) (hx : it_X ix T e) (hj' : j' < 12) (R' : it_R kd pl wd tm dg dc ss pc ln sn sd j' K' A' W' T' D' B' S' L') (hx' : it_X ix T' e') (hK : K' = 1) :
    ∃ st' dr' oth' ch', st_ok st' ∧ (∀ post, post (cn, ck, fp, pg, ob, hr, sp, ix, sz, pf, sc, st', kd, pl, wd, tm, dg, dc, ss, pc, op, ox, oy, oz, ps, jp, oi, pa, pt, sh, lc, rc, dr') → wpX_tally post (cn, ck, fp, pg, ob, hr, sp, ix, sz, pf, sc, st, kd, pl, wd, tm, dg, dc, ss, pc, op, ox, oy, oz, ps, jp, oi, pa, pt, sh, lc, rc, dr) (nI j) (nI j') z) ∧ (∀ post, post (cn, fp, ck, pf, hr, sp, ix, sc, ye, sz, yj, st', kd, pl, ln, dc, tm, sn, sd, op, ox, oy, oz, sh, ch', oth', lw, hg, le, bk, fm, vy) → wpY_tally post (cn, fp, ck, pf, hr, sp, ix, sc, ye, sz, yj, st, kd, pl, ln, dc, tm, sn, sd, op, ox, oy, oz, sh, ch, oth, lw, hg, le, bk, fm, vy) (nI j) (nI j') z) := by
  have hF : A + (e - 1) * W + W ≤ 96 := it_F R.2.1.2.2.2.2.2.2.2.1 hx.1 hx.2.1
  have hW := it_W12 R
  have hl := tl_le st (A + (e - 1) * W) z W
  obtain ⟨st', dr', oth', ok', hX, hY⟩ := sp_pair (cn := cn) (ck := ck) (fp := fp) (pg := pg) (ob := ob) (hr := hr) (sp := sp) (ix := ix) (sz := sz) (pf := pf) (sc := sc) (ye := ye) (yj := yj) (st := st) (kd := kd) (pl := pl) (wd := wd) (tm := tm) (dg := dg) (dc := dc) (ss := ss) (pc := pc) (op := op) (ox := ox) (oy := oy) (oz := oz) (ps := ps) (jp := jp) (oi := oi) (pa := pa) (pt := pt) (sh := sh) (lc := lc) (rc := rc) (dr := dr) (ln := ln) (sn := sn) (sd := sd) (ch := sg_put ch 0 0 W (fun i => st (A + (e - 1) * W + 0 + i))) (oth := oth) (lw := lw) (hg := hg) (le := le) (bk := bk) (fm := fm) (vy := vy) (s := false) (m := tl_c st (A + (e - 1) * W) z W) (has := 0) hj' R' hx' (Or.inl hK) ok (by omega) (by omega) (fun w => absurd w (by decide))
  refine ⟨st', dr', oth', sg_put ch 0 0 W (fun i => st (A + (e - 1) * W + 0 + i)), ok', fun post hp => ?_, fun post hp => ?_⟩
  · unfold wpX_tally
    exact xi_place hj R hx ⟨W + 1, ty_xL hj R.1.2.2.1 hF (hX _ hp) W 0 _ _ (by omega) rfl rfl⟩
  · unfold wpY_tally
    refine yt_take (sk := 0) hj R hx (Or.inr ⟨by decide, rfl⟩) ?_
    exact ⟨W + 1, ty_yL hW (fun i hi => by rw [sg_in0 _ _ _ _ (Nat.zero_le _) hi, Nat.add_zero]) (yi_elem hj' R' hx' (hY _ hp)) W 0 _ _ (by omega) rfl rfl⟩
end
