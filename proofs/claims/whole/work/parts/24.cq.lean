/-! one computation whole, by its code; MOVE whole -/
section
variable {cn ck fp pg ob hr sp ix sz pf sc ye yj : Int32}
variable {st kd pl wd tm dg dc ss pc op ox oy oz ps jp oi pa pt sh lc rc dr ln sn sd ch oth lw hg le bk fm vy : Nat → Int32}
variable {K A W T D B S L e j : Nat} {V : Int} {x z : Int32} {d : Nat}
theorem cq_x {post : SX → Prop} {r : Bool} {pc' : Int32} {Vy : Int} (ok : st_ok st) (O : od_P ix st kd pl wd tm dg dc ss pc ln sn sd x z V d) (Oy : od_P ix st kd pl wd tm dg dc ss pc ln sn sd (nI j) 0 Vy B) (hj : j < 12) (R : it_R kd pl wd tm dg dc ss pc ln sn sd j K A W T D B S L) (h5 : pc' = 5 → V = 0 → post (cn, ck, fp, pg, ob, hr, sp, ix, 1, pf, sc, st, kd, pl, wd, tm, dg, dc, ss, pc, op, ox, oy, oz, ps, jp, oi, pa, pt, sh, lc, rc, dr))
    (h : (pc' = 5 → V ≠ 0) → wX_compute_78 post (nI j) (rd_b r) pc' (ar_l Vy) (ar_l V) (nI B) (nI d) cn ck fp pg ob hr sp ix sz pf sc st kd pl wd tm dg dc ss pc op ox oy oz ps jp oi pa pt sh lc rc dr) : wX_compute_25 post x (nI j) z (rd_b r) pc' cn ck fp pg ob hr sp ix sz pf sc st kd pl wd tm dg dc ss pc op ox oy oz ps jp oi pa pt sh lc rc dr := by
  have r6 := R.1.2.2.2.2.2.1
  have hb := (od_b O).1
  unfold wX_compute_25
  refine xo_val ok Oy ?_
  refine xo_val ok O ?_
  refine ⟨vp_in_nI hj (by decide), ?_⟩
  rw [nI_clamp (show j < 2 ^ 31 by omega), r6]
  refine nm_e (xo_dec O ?_)
  have e0 : ar_l V = 0 ↔ V = 0 := ar_eq0 ⟨by omega, by omega⟩
  rw [e0]
  refine br_c (fun w => br_c (fun w2 => h5 w w2) (fun w2 => h (fun _ => w2))) (fun w => h (fun w2 => absurd w2 w))
theorem cq_y {post : SY → Prop} {r how : Int32} {Vy : Int} (ok : st_ok st) (O : od_P ix st kd pl wd tm dg dc ss pc ln sn sd x z V d) (hj : j < 12) (R : it_R kd pl wd tm dg dc ss pc ln sn sd j K A W T D B S L) (hx : it_X ix T e) (eVy : Vy = vl_v st K (A + (e - 1) * W) W S)
    (h : wY_reckon_54 post how r (nI j) (ar_l V) (ar_l Vy) (nI d) cn fp ck pf hr sp ix sc ye sz yj st kd pl ln dc tm sn sd op ox oy oz sh ch oth lw hg le bk fm vy) : wpY_reckon post (cn, fp, ck, pf, hr, sp, ix, sc, ye, sz, yj, st, kd, pl, ln, dc, tm, sn, sd, op, ox, oy, oz, sh, ch, oth, lw, hg, le, bk, fm, vy) how r x (nI j) z := by
  subst eVy
  have k22 : ∀ a : Int64, a = ar_l V → wY_reckon_22 post how r x (nI j) a cn fp ck pf hr sp ix sc ye sz yj st kd pl ln dc tm sn sd op ox oy oz sh ch oth lw hg le bk fm vy := by
    intro a ea
    subst ea
    unfold wY_reckon_22
    refine yi_elem hj R hx ?_
    refine yv_value hj R hx.1 hx.2.1 ok ?_
    rcases O with ⟨f0, f1, f2⟩ | ⟨j', K', A', W', T', D', B', S', L', e', hj', f0, R', hx', f1, f2⟩
    · subst f0 f2
      exact br_t rfl h
    · subst f0 f2
      refine br_f (nI_16 hj') ⟨vp_in_nI hj' (by decide), ?_⟩
      rw [nI_clamp (show j' < 2 ^ 31 by omega), R'.1.2.2.2.2.2.1]
      exact h
  rcases O with ⟨f0, f1, f2⟩ | ⟨j', K', A', W', T', D', B', S', L', e', hj', f0, R', hx', f1, f2⟩
  · subst f0 f1
    exact br_t rfl (k22 _ rfl)
  · subst f0 f1
    exact br_f (nI_16 hj') (yi_elem hj' R' hx' (yv_value hj' R' hx'.1 hx'.2.1 ok (k22 _ rfl)))
theorem cq_O {PX PX' : (SX → Prop) → Prop} {PY PY' : (SY → Prop) → Prop} (h : cp_O cn ck fp pg ob hr sp ix sz pf sc ye yj st kd pl wd tm dg dc ss pc op ox oy oz ps jp oi pa pt sh lc rc dr ln sn sd ch oth lw hg le bk fm vy PX PY) (hX : ∀ post, PX post → PX' post) (hY : ∀ post, PY post → PY' post) : cp_O cn ck fp pg ob hr sp ix sz pf sc ye yj st kd pl wd tm dg dc ss pc op ox oy oz ps jp oi pa pt sh lc rc dr ln sn sd ch oth lw hg le bk fm vy PX' PY' := by
  obtain ⟨st', dr', oth', sz', a, b, c, d⟩ := h
  exact ⟨st', dr', oth', sz', a, b, fun post hp => hX post (c post hp), fun post hp => hY post (d post hp)⟩
/-- the four kinds: pc' the class's code, how the reference's -/
theorem cq_k {r : Bool} {pc' how : Int32} (ok : st_ok st) (O : od_P ix st kd pl wd tm dg dc ss pc ln sn sd x z V d) (hj : j < 12) (R : it_R kd pl wd tm dg dc ss pc ln sn sd j K A W T D B S L) (hx : it_X ix T e) (hK : K = 1) (hk : (pc' = 2 ∧ how = 0) ∨ (pc' = 3 ∧ how = 1) ∨ (pc' = 4 ∧ how = 2) ∨ (pc' = 5 ∧ how = 3)) :
    cp_O cn ck fp pg ob hr sp ix sz pf sc ye yj st kd pl wd tm dg dc ss pc op ox oy oz ps jp oi pa pt sh lc rc dr ln sn sd ch oth lw hg le bk fm vy (fun post => wX_compute_25 post x (nI j) z (rd_b r) pc' cn ck fp pg ob hr sp ix sz pf sc st kd pl wd tm dg dc ss pc op ox oy oz ps jp oi pa pt sh lc rc dr) (fun post => wpY_reckon post (cn, fp, ck, pf, hr, sp, ix, sc, ye, sz, yj, st, kd, pl, ln, dc, tm, sn, sd, op, ox, oy, oz, sh, ch, oth, lw, hg, le, bk, fm, vy) how (rd_b r) x (nI j) z) := by
  obtain ⟨b1, b2⟩ := od_b O
  have Oy : od_P ix st kd pl wd tm dg dc ss pc ln sn sd (nI j) 0 (vl_v st K (A + (e - 1) * W) W S) B := Or.inr ⟨j, K, A, W, T, D, B, S, L, e, hj, rfl, R, hx, rfl, rfl⟩
  have b3 : (vl_v st K (A + (e - 1) * W) W S).natAbs ≤ 1000000000 := by
    rw [vl_nn]
    exact Nat.le_of_lt (vl_lt st K _ W S (fun w => by have := (R.2.2.1 w).2.1; have := R.2.1.2.2.2.2.2.2.1; omega))
  rcases hk with ⟨rfl, rfl⟩ | ⟨rfl, rfl⟩ | ⟨rfl, rfl⟩ | ⟨rfl, rfl⟩
  · exact cq_O (cp_as (sub := false) ok hj R hx hK b1 b3 b2) (fun post hp => cq_x ok O Oy hj R (fun w => absurd w (by decide)) (fun _ => hp)) (fun post hp => cq_y ok O hj R hx rfl hp)
  · exact cq_O (cp_as (sub := true) ok hj R hx hK b1 b3 b2) (fun post hp => cq_x ok O Oy hj R (fun w => absurd w (by decide)) (fun _ => hp)) (fun post hp => cq_y ok O hj R hx rfl hp)
  · exact cq_O (cp_mul ok hj R hx hK b1 b3 b2) (fun post hp => cq_x ok O Oy hj R (fun w => absurd w (by decide)) (fun _ => hp)) (fun post hp => cq_y ok O hj R hx rfl hp)
  · by_cases hV : V = 0
    · refine ⟨st, dr, oth, 1, ok, Or.inr rfl, fun post hp => cq_x ok O Oy hj R (fun _ _ => hp) (fun w => absurd hV (w rfl)), fun post hp => cq_y ok O hj R hx rfl ⟨vp_in_nI hj (by decide), ?_⟩⟩
      rw [nI_clamp (show j < 2 ^ 31 by omega), R.1.2.2.2.2.2.1]
      have h79 : ∀ f : Int32, wY_reckon_79 post 3 (rd_b r) (nI j) (ar_l V) (ar_l (vl_v st K (A + (e - 1) * W) W S)) (nI d) (nI B) f cn fp ck pf hr sp ix sc ye sz yj st kd pl ln dc tm sn sd op ox oy oz sh ch oth lw hg le bk fm vy := fun f => br_t (by decide) (br_f (by decide) (yw_ten (by omega) (nm_e (br_t (by rw [hV]; decide) hp))))
      exact nm_e (br_c (fun _ => h79 _) (fun _ => h79 _))
    · exact cq_O (cp_div ok hj R hx hK b1 b3 b2 hV) (fun post hp => cq_x ok O Oy hj R (fun _ w => absurd w hV) (fun _ => hp)) (fun post hp => cq_y ok O hj R hx rfl hp)
theorem cq_2 (ok : st_ok st) (O : od_P ix st kd pl wd tm dg dc ss pc ln sn sd x z V d) (hj : j < 12) (R : it_R kd pl wd tm dg dc ss pc ln sn sd j K A W T D B S L) (hx : it_X ix T e) (hK : K = 1) :
    cp_O cn ck fp pg ob hr sp ix sz pf sc ye yj st kd pl wd tm dg dc ss pc op ox oy oz ps jp oi pa pt sh lc rc dr ln sn sd ch oth lw hg le bk fm vy (fun post => wpX_compute post (cn, ck, fp, pg, ob, hr, sp, ix, sz, pf, sc, st, kd, pl, wd, tm, dg, dc, ss, pc, op, ox, oy, oz, ps, jp, oi, pa, pt, sh, lc, rc, dr) 2 x (nI j) z) (fun post => wpY_reckon post (cn, fp, ck, pf, hr, sp, ix, sc, ye, sz, yj, st, kd, pl, ln, dc, tm, sn, sd, op, ox, oy, oz, sh, ch, oth, lw, hg, le, bk, fm, vy) 0 0 x (nI j) z) := by
  refine cq_O (cq_k (r := false) (pc' := 2) (how := 0) ok O hj R hx hK (by decide)) (fun post hp => ?_) (fun post hp => hp)
  exact br_t (by decide) (br_t rfl hp)
theorem cq_3 (ok : st_ok st) (O : od_P ix st kd pl wd tm dg dc ss pc ln sn sd x z V d) (hj : j < 12) (R : it_R kd pl wd tm dg dc ss pc ln sn sd j K A W T D B S L) (hx : it_X ix T e) (hK : K = 1) :
    cp_O cn ck fp pg ob hr sp ix sz pf sc ye yj st kd pl wd tm dg dc ss pc op ox oy oz ps jp oi pa pt sh lc rc dr ln sn sd ch oth lw hg le bk fm vy (fun post => wpX_compute post (cn, ck, fp, pg, ob, hr, sp, ix, sz, pf, sc, st, kd, pl, wd, tm, dg, dc, ss, pc, op, ox, oy, oz, ps, jp, oi, pa, pt, sh, lc, rc, dr) 3 x (nI j) z) (fun post => wpY_reckon post (cn, fp, ck, pf, hr, sp, ix, sc, ye, sz, yj, st, kd, pl, ln, dc, tm, sn, sd, op, ox, oy, oz, sh, ch, oth, lw, hg, le, bk, fm, vy) 1 0 x (nI j) z) := by
  refine cq_O (cq_k (r := false) (pc' := 3) (how := 1) ok O hj R hx hK (by decide)) (fun post hp => ?_) (fun post hp => hp)
  exact br_t (by decide) (br_t rfl hp)
theorem cq_4 (ok : st_ok st) (O : od_P ix st kd pl wd tm dg dc ss pc ln sn sd x z V d) (hj : j < 12) (R : it_R kd pl wd tm dg dc ss pc ln sn sd j K A W T D B S L) (hx : it_X ix T e) (hK : K = 1) :
    cp_O cn ck fp pg ob hr sp ix sz pf sc ye yj st kd pl wd tm dg dc ss pc op ox oy oz ps jp oi pa pt sh lc rc dr ln sn sd ch oth lw hg le bk fm vy (fun post => wpX_compute post (cn, ck, fp, pg, ob, hr, sp, ix, sz, pf, sc, st, kd, pl, wd, tm, dg, dc, ss, pc, op, ox, oy, oz, ps, jp, oi, pa, pt, sh, lc, rc, dr) 4 x (nI j) z) (fun post => wpY_reckon post (cn, fp, ck, pf, hr, sp, ix, sc, ye, sz, yj, st, kd, pl, ln, dc, tm, sn, sd, op, ox, oy, oz, sh, ch, oth, lw, hg, le, bk, fm, vy) 2 0 x (nI j) z) := by
  refine cq_O (cq_k (r := false) (pc' := 4) (how := 2) ok O hj R hx hK (by decide)) (fun post hp => ?_) (fun post hp => hp)
  exact br_t (by decide) (br_t rfl hp)
theorem cq_5 (ok : st_ok st) (O : od_P ix st kd pl wd tm dg dc ss pc ln sn sd x z V d) (hj : j < 12) (R : it_R kd pl wd tm dg dc ss pc ln sn sd j K A W T D B S L) (hx : it_X ix T e) (hK : K = 1) :
    cp_O cn ck fp pg ob hr sp ix sz pf sc ye yj st kd pl wd tm dg dc ss pc op ox oy oz ps jp oi pa pt sh lc rc dr ln sn sd ch oth lw hg le bk fm vy (fun post => wpX_compute post (cn, ck, fp, pg, ob, hr, sp, ix, sz, pf, sc, st, kd, pl, wd, tm, dg, dc, ss, pc, op, ox, oy, oz, ps, jp, oi, pa, pt, sh, lc, rc, dr) 5 x (nI j) z) (fun post => wpY_reckon post (cn, fp, ck, pf, hr, sp, ix, sc, ye, sz, yj, st, kd, pl, ln, dc, tm, sn, sd, op, ox, oy, oz, sh, ch, oth, lw, hg, le, bk, fm, vy) 3 0 x (nI j) z) := by
  refine cq_O (cq_k (r := false) (pc' := 5) (how := 3) ok O hj R hx hK (by decide)) (fun post hp => ?_) (fun post hp => hp)
  exact br_t (by decide) (br_t rfl hp)
theorem cq_6 (ok : st_ok st) (O : od_P ix st kd pl wd tm dg dc ss pc ln sn sd x z V d) (hj : j < 12) (R : it_R kd pl wd tm dg dc ss pc ln sn sd j K A W T D B S L) (hx : it_X ix T e) (hK : K = 1) :
    cp_O cn ck fp pg ob hr sp ix sz pf sc ye yj st kd pl wd tm dg dc ss pc op ox oy oz ps jp oi pa pt sh lc rc dr ln sn sd ch oth lw hg le bk fm vy (fun post => wpX_compute post (cn, ck, fp, pg, ob, hr, sp, ix, sz, pf, sc, st, kd, pl, wd, tm, dg, dc, ss, pc, op, ox, oy, oz, ps, jp, oi, pa, pt, sh, lc, rc, dr) 6 x (nI j) z) (fun post => wpY_reckon post (cn, fp, ck, pf, hr, sp, ix, sc, ye, sz, yj, st, kd, pl, ln, dc, tm, sn, sd, op, ox, oy, oz, sh, ch, oth, lw, hg, le, bk, fm, vy) 0 1 x (nI j) z) := by
  refine cq_O (cq_k (r := true) (pc' := 2) (how := 0) ok O hj R hx hK (by decide)) (fun post hp => ?_) (fun post hp => hp)
  refine br_f (by decide) (br_f (by decide) ?_)
  rw [show (6 : Int32) - 4 = 2 from by decide]
  exact hp
theorem cq_7 (ok : st_ok st) (O : od_P ix st kd pl wd tm dg dc ss pc ln sn sd x z V d) (hj : j < 12) (R : it_R kd pl wd tm dg dc ss pc ln sn sd j K A W T D B S L) (hx : it_X ix T e) (hK : K = 1) :
    cp_O cn ck fp pg ob hr sp ix sz pf sc ye yj st kd pl wd tm dg dc ss pc op ox oy oz ps jp oi pa pt sh lc rc dr ln sn sd ch oth lw hg le bk fm vy (fun post => wpX_compute post (cn, ck, fp, pg, ob, hr, sp, ix, sz, pf, sc, st, kd, pl, wd, tm, dg, dc, ss, pc, op, ox, oy, oz, ps, jp, oi, pa, pt, sh, lc, rc, dr) 7 x (nI j) z) (fun post => wpY_reckon post (cn, fp, ck, pf, hr, sp, ix, sc, ye, sz, yj, st, kd, pl, ln, dc, tm, sn, sd, op, ox, oy, oz, sh, ch, oth, lw, hg, le, bk, fm, vy) 1 1 x (nI j) z) := by
  refine cq_O (cq_k (r := true) (pc' := 3) (how := 1) ok O hj R hx hK (by decide)) (fun post hp => ?_) (fun post hp => hp)
  refine br_f (by decide) (br_f (by decide) ?_)
  rw [show (7 : Int32) - 4 = 3 from by decide]
  exact hp
theorem cq_8 (ok : st_ok st) (O : od_P ix st kd pl wd tm dg dc ss pc ln sn sd x z V d) (hj : j < 12) (R : it_R kd pl wd tm dg dc ss pc ln sn sd j K A W T D B S L) (hx : it_X ix T e) (hK : K = 1) :
    cp_O cn ck fp pg ob hr sp ix sz pf sc ye yj st kd pl wd tm dg dc ss pc op ox oy oz ps jp oi pa pt sh lc rc dr ln sn sd ch oth lw hg le bk fm vy (fun post => wpX_compute post (cn, ck, fp, pg, ob, hr, sp, ix, sz, pf, sc, st, kd, pl, wd, tm, dg, dc, ss, pc, op, ox, oy, oz, ps, jp, oi, pa, pt, sh, lc, rc, dr) 8 x (nI j) z) (fun post => wpY_reckon post (cn, fp, ck, pf, hr, sp, ix, sc, ye, sz, yj, st, kd, pl, ln, dc, tm, sn, sd, op, ox, oy, oz, sh, ch, oth, lw, hg, le, bk, fm, vy) 2 1 x (nI j) z) := by
  refine cq_O (cq_k (r := true) (pc' := 4) (how := 2) ok O hj R hx hK (by decide)) (fun post hp => ?_) (fun post hp => hp)
  refine br_f (by decide) (br_f (by decide) ?_)
  rw [show (8 : Int32) - 4 = 4 from by decide]
  exact hp
theorem cq_9 (ok : st_ok st) (O : od_P ix st kd pl wd tm dg dc ss pc ln sn sd x z V d) (hj : j < 12) (R : it_R kd pl wd tm dg dc ss pc ln sn sd j K A W T D B S L) (hx : it_X ix T e) (hK : K = 1) :
    cp_O cn ck fp pg ob hr sp ix sz pf sc ye yj st kd pl wd tm dg dc ss pc op ox oy oz ps jp oi pa pt sh lc rc dr ln sn sd ch oth lw hg le bk fm vy (fun post => wpX_compute post (cn, ck, fp, pg, ob, hr, sp, ix, sz, pf, sc, st, kd, pl, wd, tm, dg, dc, ss, pc, op, ox, oy, oz, ps, jp, oi, pa, pt, sh, lc, rc, dr) 9 x (nI j) z) (fun post => wpY_reckon post (cn, fp, ck, pf, hr, sp, ix, sc, ye, sz, yj, st, kd, pl, ln, dc, tm, sn, sd, op, ox, oy, oz, sh, ch, oth, lw, hg, le, bk, fm, vy) 3 1 x (nI j) z) := by
  refine cq_O (cq_k (r := true) (pc' := 5) (how := 3) ok O hj R hx hK (by decide)) (fun post hp => ?_) (fun post hp => hp)
  refine br_f (by decide) (br_f (by decide) ?_)
  rw [show (9 : Int32) - 4 = 5 from by decide]
  exact hp
theorem mv_all (ok : st_ok st) (O : od_P ix st kd pl wd tm dg dc ss pc ln sn sd x z V d) (hj : j < 12) (R : it_R kd pl wd tm dg dc ss pc ln sn sd j K A W T D B S L) (hx : it_X ix T e) :
    ∃ st' lc' dr' ch' oth', st_ok st' ∧ (∀ post, post (cn, ck, fp, pg, ob, hr, sp, ix, sz, pf, sc, st', kd, pl, wd, tm, dg, dc, ss, pc, op, ox, oy, oz, ps, jp, oi, pa, pt, sh, lc', rc, dr') → wpX_move post (cn, ck, fp, pg, ob, hr, sp, ix, sz, pf, sc, st, kd, pl, wd, tm, dg, dc, ss, pc, op, ox, oy, oz, ps, jp, oi, pa, pt, sh, lc, rc, dr) x (nI j) z) ∧ (∀ post, post (cn, fp, ck, pf, hr, sp, ix, sc, ye, sz, yj, st', kd, pl, ln, dc, tm, sn, sd, op, ox, oy, oz, sh, ch', oth', lw, hg, le, bk, fm, vy) → wpY_move post (cn, fp, ck, pf, hr, sp, ix, sc, ye, sz, yj, st, kd, pl, ln, dc, tm, sn, sd, op, ox, oy, oz, sh, ch, oth, lw, hg, le, bk, fm, vy) x (nI j) z) := by
  have k1 := R.2.1.1
  have k2 := R.2.1.2.1
  by_cases hK : K = 2
  · obtain ⟨st', lc', ch', a, b, c⟩ := mv_txt (cn := cn) (ck := ck) (fp := fp) (pg := pg) (ob := ob) (hr := hr) (sp := sp) (ix := ix) (sz := sz) (pf := pf) (sc := sc) (ye := ye) (yj := yj) (st := st) (kd := kd) (pl := pl) (wd := wd) (tm := tm) (dg := dg) (dc := dc) (ss := ss) (pc := pc) (op := op) (ox := ox) (oy := oy) (oz := oz) (ps := ps) (jp := jp) (oi := oi) (pa := pa) (pt := pt) (sh := sh) (lc := lc) (rc := rc) (dr := dr) (ln := ln) (sn := sn) (sd := sd) (ch := ch) (oth := oth) (lw := lw) (hg := hg) (le := le) (bk := bk) (fm := fm) (vy := vy) ok O hj R hx hK
    exact ⟨st', lc', dr, ch', oth, a, b, c⟩
  · obtain ⟨st', dr', oth', a, b, c⟩ := mv_num (cn := cn) (ck := ck) (fp := fp) (pg := pg) (ob := ob) (hr := hr) (sp := sp) (ix := ix) (sz := sz) (pf := pf) (sc := sc) (ye := ye) (yj := yj) (st := st) (kd := kd) (pl := pl) (wd := wd) (tm := tm) (dg := dg) (dc := dc) (ss := ss) (pc := pc) (op := op) (ox := ox) (oy := oy) (oz := oz) (ps := ps) (jp := jp) (oi := oi) (pa := pa) (pt := pt) (sh := sh) (lc := lc) (rc := rc) (dr := dr) (ln := ln) (sn := sn) (sd := sd) (ch := ch) (oth := oth) (lw := lw) (hg := hg) (le := le) (bk := bk) (fm := fm) (vy := vy) ok O hj R hx (by omega)
    exact ⟨st', lc, dr', ch, oth', a, b, c⟩
end
