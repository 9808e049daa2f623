/-! one step, by its code: IF, ELSE, PERFORM, GO TO, STOP, DISPLAY, INDEX, TALLY -/
section
variable {cn ck fp pg ob hr sp ix sz pf sc ye yj : Int32}
variable {st kd pl wd tm dg dc ss pc op ox oy oz ps jp oi pa pt sh lc rc dr ln sn sd ch oth lw hg le bk fm vy : Nat → Int32}
variable {n h p c t : Nat} {x y z o : Int32}
theorem so_10 (H : sh_H n h p c t 10 ix sz yj x y z st kd pl wd tm dg dc ss pc ln sn sd op ox oy oz ps jp pa pt lw hg le bk fm vy) : so_O t (nI n, 1, fp, pg, ob, nI h, nI t, ix, sz, nI p, nI c, st, kd, pl, wd, tm, dg, dc, ss, pc, op, ox, oy, oz, ps, jp, oi, pa, pt, sh, lc, rc, dr) (nI n, fp, 1, nI p, nI h, nI t, ix, nI c, (-1), sz, yj, st, kd, pl, ln, dc, tm, sn, sd, op, ox, oy, oz, sh, ch, oth, lw, hg, le, bk, fm, vy) := by
  obtain ⟨hn, hh, hp6, ht, hc, hsz, ok, hA, Pg, hF, hal, ⟨e1, e2, e3, e4⟩, hft, hnb⟩ := H
  have vh : vp_in (nI h) 48 := vp_in_nI (by omega) (by decide)
  have ch1 : (nI h).toNatClampNeg = h := nI_clamp (by omega)
  have eo : op (nI h).toNatClampNeg = nI 10 := by rw [ch1, e1]
  have ex : ox (nI h).toNatClampNeg = x := by rw [ch1, e2]
  have ey : oy (nI h).toNatClampNeg = y := by rw [ch1, e3]
  have ez : oz (nI h).toNatClampNeg = z := by rw [ch1, e4]
  obtain ⟨f1, f2, q, hq, rfl⟩ := hft.2.2.1 rfl
  have f3 := fc_i f1
  have f4 := fc_i f2
  have hxi : 1 ≤ ms_c 10 → x = 16 ∨ ft_i kd x := fun _ => Or.inr f3
  have hyi : ms_c 10 = 2 → ft_i kd y := fun _ => f4
  obtain ⟨j, K, A, W, T, D, B, S, L, e, hj, rfl, R, hX⟩ := ac_ex hA f3 (fun w => hnb (Or.inl ⟨by decide, w⟩))
  obtain ⟨j', K', A', W', T', D', B', S', L', e', hj', rfl, R', hX'⟩ := ac_ex hA f4 (fun w => hnb (Or.inr ⟨rfl, w⟩))
  obtain ⟨r, lc', rc', ch', oth', hr1, mX, mY⟩ := hd_rel (cn := nI n) (ck := 1) (fp := fp) (pg := pg) (ob := ob) (hr := nI h) (sp := nI (t + 1)) (ix := ix) (sz := sz) (pf := nI p) (sc := nI c) (ye := -1) (yj := 0) (st := st) (kd := kd) (pl := pl) (wd := wd) (tm := tm) (dg := dg) (dc := dc) (ss := ss) (pc := pc) (op := op) (ox := ox) (oy := oy) (oz := oz) (ps := ps) (jp := jp) (oi := oi) (pa := pa) (pt := pt) (sh := sh) (lc := lc) (rc := rc) (dr := dr) (ln := ln) (sn := sn) (sd := sd) (ch := ch) (oth := oth) (lw := lw) (hg := hg) (le := le) (bk := bk) (fm := fm) (vy := vy) ok hj R hX hj' R' hX' hq
  obtain ⟨je, jlt, jp1, jp2⟩ := Pg.2.2.2.2 h hh (by rw [e1]; unfold ck_o pw_i; decide)
  have ejp : jp (nI h).toNatClampNeg = nI (je + 1) := by rw [ch1, jp2]
  rcases hr1 with e0 | e0 <;> subst e0
  · obtain ⟨u', v', R', gX, gY⟩ := fg_go (fp := fp) (pg := pg) (ob := ob) (hr := nI h) (ix := ix) (sz := sz) (st := st) (kd := kd) (pl := pl) (wd := wd) (tm := tm) (dg := dg) (dc := dc) (ss := ss) (pc := pc) (op := op) (ox := ox) (oy := oy) (oz := oz) (ps := ps) (jp := jp) (oi := oi) (pa := pa) (pt := pt) (sh := sh) (lc := lc') (rc := rc') (dr := dr) (ln := ln) (sn := sn) (sd := sd) (ch := ch') (oth := oth') (lw := lw) (hg := hg) (le := le) (bk := bk) (fm := fm) (vy := vy) (t := t) (c := c) (h := je + 1) hn (show je + 1 ≤ n by omega) hp6 (by omega) ((show c ≤ 12 * (t + 1) by omega)) hsz ok hA Pg hF
    refine Or.inr ⟨u', v', R', fun post hp => ?_, fun post hp => ?_⟩
    · exact br_t (nI_lt hh (by omega)) (br_t (nI_lt (b := 500) ht (by decide)) (nm_r (nI_1 t) ⟨vh, nm_r eo ⟨vh, nm_r ex ⟨vh, nm_r ey ⟨vh, nm_r ez (xm_tab (o := 10) (by decide) (fun w => absurd w hnb) (fun _ => br_t rfl (nm_r (nI_1 h) (br_f (by decide) (br_f (by decide) (br_f (by decide) (br_f (by decide) (br_f (by decide) (br_f (by decide) (br_f (by decide) (br_f (by decide) (br_f (by decide) (br_f (by decide) (br_f (by decide) (br_t rfl (mX _ (br_t rfl ⟨vh, by rw [ejp]; exact gX post hp⟩)))))))))))))))))⟩⟩⟩⟩))
    · obtain ⟨m, hm⟩ := gY post hp
      exact yg_step hn hh hp6 ht Pg hal ⟨m, ym_tab (o := 10) (by omega) (by decide) e1 e2 e3 e4 hxi hyi (fun w => absurd w hnb) (fun _ => by
        refine br_f (by decide) (br_f (by decide) (br_f (by decide) (yc_182 (by decide) ?_)))
        unfold wY_step_215
        refine yi_in (fun _ _ => br_f (by decide) (br_f (by decide) (br_f (by decide) (mY _ ?_)))) (fun w => absurd ⟨by decide, by decide⟩ w)
        exact br_t rfl (yb_part (by omega) jp1 (yc_280 (by decide) (by decide) (by decide) (by decide) (by decide) (by decide) (by decide) (by rw [nI_1]; exact hm))))⟩
  · obtain ⟨u', v', R', gX, gY⟩ := fg_go (fp := fp) (pg := pg) (ob := ob) (hr := nI h) (ix := ix) (sz := sz) (st := st) (kd := kd) (pl := pl) (wd := wd) (tm := tm) (dg := dg) (dc := dc) (ss := ss) (pc := pc) (op := op) (ox := ox) (oy := oy) (oz := oz) (ps := ps) (jp := jp) (oi := oi) (pa := pa) (pt := pt) (sh := sh) (lc := lc') (rc := rc') (dr := dr) (ln := ln) (sn := sn) (sd := sd) (ch := ch') (oth := oth') (lw := lw) (hg := hg) (le := le) (bk := bk) (fm := fm) (vy := vy) (t := t) (c := c) (h := h + 1) hn (show h + 1 ≤ n by omega) hp6 (by omega) ((show c ≤ 12 * (t + 1) by omega)) hsz ok hA Pg hF
    refine Or.inr ⟨u', v', R', fun post hp => ?_, fun post hp => ?_⟩
    · exact br_t (nI_lt hh (by omega)) (br_t (nI_lt (b := 500) ht (by decide)) (nm_r (nI_1 t) ⟨vh, nm_r eo ⟨vh, nm_r ex ⟨vh, nm_r ey ⟨vh, nm_r ez (xm_tab (o := 10) (by decide) (fun w => absurd w hnb) (fun _ => br_t rfl (nm_r (nI_1 h) (br_f (by decide) (br_f (by decide) (br_f (by decide) (br_f (by decide) (br_f (by decide) (br_f (by decide) (br_f (by decide) (br_f (by decide) (br_f (by decide) (br_f (by decide) (br_f (by decide) (br_t rfl (mX _ (br_f (by decide) (gX post hp))))))))))))))))))⟩⟩⟩⟩))
    · obtain ⟨m, hm⟩ := gY post hp
      exact yg_step hn hh hp6 ht Pg hal ⟨m, ym_tab (o := 10) (by omega) (by decide) e1 e2 e3 e4 hxi hyi (fun w => absurd w hnb) (fun _ => by
        refine br_f (by decide) (br_f (by decide) (br_f (by decide) (yc_182 (by decide) ?_)))
        unfold wY_step_215
        refine yi_in (fun _ _ => br_f (by decide) (br_f (by decide) (br_f (by decide) (mY _ ?_)))) (fun w => absurd ⟨by decide, by decide⟩ w)
        exact br_f (by decide) (yc_280 (by decide) (by decide) (by decide) (by decide) (by decide) (by decide) (by decide) (by rw [nI_1]; exact hm)))⟩
theorem so_11 (H : sh_H n h p c t 11 ix sz yj x y z st kd pl wd tm dg dc ss pc ln sn sd op ox oy oz ps jp pa pt lw hg le bk fm vy) : so_O t (nI n, 1, fp, pg, ob, nI h, nI t, ix, sz, nI p, nI c, st, kd, pl, wd, tm, dg, dc, ss, pc, op, ox, oy, oz, ps, jp, oi, pa, pt, sh, lc, rc, dr) (nI n, fp, 1, nI p, nI h, nI t, ix, nI c, (-1), sz, yj, st, kd, pl, ln, dc, tm, sn, sd, op, ox, oy, oz, sh, ch, oth, lw, hg, le, bk, fm, vy) := by
  obtain ⟨hn, hh, hp6, ht, hc, hsz, ok, hA, Pg, hF, hal, ⟨e1, e2, e3, e4⟩, hft, hnb⟩ := H
  have vh : vp_in (nI h) 48 := vp_in_nI (by omega) (by decide)
  have ch1 : (nI h).toNatClampNeg = h := nI_clamp (by omega)
  have eo : op (nI h).toNatClampNeg = nI 11 := by rw [ch1, e1]
  have ex : ox (nI h).toNatClampNeg = x := by rw [ch1, e2]
  have ey : oy (nI h).toNatClampNeg = y := by rw [ch1, e3]
  have ez : oz (nI h).toNatClampNeg = z := by rw [ch1, e4]
  have hxi : 1 ≤ ms_c 11 → x = 16 ∨ ft_i kd x := (fun w => absurd w (by decide))
  have hyi : ms_c 11 = 2 → ft_i kd y := (fun w => absurd w (by decide))
  obtain ⟨je, jlt, jp1, jp2⟩ := Pg.2.2.2.2 h hh (by rw [e1]; unfold ck_o pw_i; decide)
  have ejp : jp (nI h).toNatClampNeg = nI (je + 1) := by rw [ch1, jp2]
  have hsz0 := hsz
  rcases hsz0 with e0 | e0 <;> subst e0
  · obtain ⟨u', v', R', gX, gY⟩ := fg_go (fp := fp) (pg := pg) (ob := ob) (hr := nI h) (ix := ix) (sz := 0) (st := st) (kd := kd) (pl := pl) (wd := wd) (tm := tm) (dg := dg) (dc := dc) (ss := ss) (pc := pc) (op := op) (ox := ox) (oy := oy) (oz := oz) (ps := ps) (jp := jp) (oi := oi) (pa := pa) (pt := pt) (sh := sh) (lc := lc) (rc := rc) (dr := dr) (ln := ln) (sn := sn) (sd := sd) (ch := ch) (oth := oth) (lw := lw) (hg := hg) (le := le) (bk := bk) (fm := fm) (vy := vy) (t := t) (c := c) (h := je + 1) hn (show je + 1 ≤ n by omega) hp6 (by omega) ((show c ≤ 12 * (t + 1) by omega)) hsz ok hA Pg hF
    refine Or.inr ⟨u', v', R', fun post hp => ?_, fun post hp => ?_⟩
    · exact br_t (nI_lt hh (by omega)) (br_t (nI_lt (b := 500) ht (by decide)) (nm_r (nI_1 t) ⟨vh, nm_r eo ⟨vh, nm_r ex ⟨vh, nm_r ey ⟨vh, nm_r ez (xm_tab (o := 11) (by decide) (fun w => absurd w hnb) (fun _ => br_t rfl (nm_r (nI_1 h) (br_f (by decide) (br_f (by decide) (br_f (by decide) (br_f (by decide) (br_f (by decide) (br_f (by decide) (br_f (by decide) (br_f (by decide) (br_f (by decide) (br_f (by decide) (br_f (by decide) (br_f (by decide) (br_t rfl (br_t rfl ⟨nb_0, br_t rfl ⟨vh, by rw [ejp]; exact gX post hp⟩⟩)))))))))))))))))⟩⟩⟩⟩))
    · obtain ⟨m, hm⟩ := gY post hp
      exact yg_step hn hh hp6 ht Pg hal ⟨m, ym_tab (o := 11) (by omega) (by decide) e1 e2 e3 e4 hxi hyi (fun w => absurd w hnb) (fun _ => by
        refine br_f (by decide) (br_f (by decide) (br_f (by decide) (yc_182 (by decide) ?_)))
        unfold wY_step_215
        refine yi_in (fun _ _ => br_f (by decide) (br_t rfl ?_)) (fun w => absurd ⟨by decide, by decide⟩ w)
        exact br_t rfl (yb_part (by omega) jp1 (yc_280 (by decide) (by decide) (by decide) (by decide) (by decide) (by decide) (by decide) (by rw [nI_1]; exact hm))))⟩
  · obtain ⟨u', v', R', gX, gY⟩ := fg_go (fp := fp) (pg := pg) (ob := ob) (hr := nI h) (ix := ix) (sz := 1) (st := st) (kd := kd) (pl := pl) (wd := wd) (tm := tm) (dg := dg) (dc := dc) (ss := ss) (pc := pc) (op := op) (ox := ox) (oy := oy) (oz := oz) (ps := ps) (jp := jp) (oi := oi) (pa := pa) (pt := pt) (sh := sh) (lc := lc) (rc := rc) (dr := dr) (ln := ln) (sn := sn) (sd := sd) (ch := ch) (oth := oth) (lw := lw) (hg := hg) (le := le) (bk := bk) (fm := fm) (vy := vy) (t := t) (c := c) (h := h + 1) hn (show h + 1 ≤ n by omega) hp6 (by omega) ((show c ≤ 12 * (t + 1) by omega)) hsz ok hA Pg hF
    refine Or.inr ⟨u', v', R', fun post hp => ?_, fun post hp => ?_⟩
    · exact br_t (nI_lt hh (by omega)) (br_t (nI_lt (b := 500) ht (by decide)) (nm_r (nI_1 t) ⟨vh, nm_r eo ⟨vh, nm_r ex ⟨vh, nm_r ey ⟨vh, nm_r ez (xm_tab (o := 11) (by decide) (fun w => absurd w hnb) (fun _ => br_t rfl (nm_r (nI_1 h) (br_f (by decide) (br_f (by decide) (br_f (by decide) (br_f (by decide) (br_f (by decide) (br_f (by decide) (br_f (by decide) (br_f (by decide) (br_f (by decide) (br_f (by decide) (br_f (by decide) (br_f (by decide) (br_t rfl (br_t rfl ⟨nb_1, br_f (by decide) (gX post hp)⟩)))))))))))))))))⟩⟩⟩⟩))
    · obtain ⟨m, hm⟩ := gY post hp
      exact yg_step hn hh hp6 ht Pg hal ⟨m, ym_tab (o := 11) (by omega) (by decide) e1 e2 e3 e4 hxi hyi (fun w => absurd w hnb) (fun _ => by
        refine br_f (by decide) (br_f (by decide) (br_f (by decide) (yc_182 (by decide) ?_)))
        unfold wY_step_215
        refine yi_in (fun _ _ => br_f (by decide) (br_t rfl ?_)) (fun w => absurd ⟨by decide, by decide⟩ w)
        exact br_f (by decide) (yc_280 (by decide) (by decide) (by decide) (by decide) (by decide) (by decide) (by decide) (by rw [nI_1]; exact hm)))⟩
theorem so_12 (H : sh_H n h p c t 12 ix sz yj x y z st kd pl wd tm dg dc ss pc ln sn sd op ox oy oz ps jp pa pt lw hg le bk fm vy) : so_O t (nI n, 1, fp, pg, ob, nI h, nI t, ix, sz, nI p, nI c, st, kd, pl, wd, tm, dg, dc, ss, pc, op, ox, oy, oz, ps, jp, oi, pa, pt, sh, lc, rc, dr) (nI n, fp, 1, nI p, nI h, nI t, ix, nI c, (-1), sz, yj, st, kd, pl, ln, dc, tm, sn, sd, op, ox, oy, oz, sh, ch, oth, lw, hg, le, bk, fm, vy) := by
  obtain ⟨hn, hh, hp6, ht, hc, hsz, ok, hA, Pg, hF, hal, ⟨e1, e2, e3, e4⟩, hft, hnb⟩ := H
  have vh : vp_in (nI h) 48 := vp_in_nI (by omega) (by decide)
  have ch1 : (nI h).toNatClampNeg = h := nI_clamp (by omega)
  have eo : op (nI h).toNatClampNeg = nI 12 := by rw [ch1, e1]
  have ex : ox (nI h).toNatClampNeg = x := by rw [ch1, e2]
  have ey : oy (nI h).toNatClampNeg = y := by rw [ch1, e3]
  have ez : oz (nI h).toNatClampNeg = z := by rw [ch1, e4]
  have f1 := hft.2.2.2.1 rfl
  have f3 := fc_i f1
  have hxi : 1 ≤ ms_c 12 → x = 16 ∨ ft_i kd x := fun _ => Or.inr f3
  have hyi : ms_c 12 = 2 → ft_i kd y := (fun w => absurd w (by decide))
  obtain ⟨j, K, A, W, T, D, B, S, L, e, hj, rfl, R, hX⟩ := ac_ex hA f3 (fun w => hnb (Or.inl ⟨by decide, w⟩))
  obtain ⟨r, ch', hr1, mX, mY⟩ := nu_pair (cn := nI n) (ck := 1) (fp := fp) (pg := pg) (ob := ob) (hr := nI h) (sp := nI (t + 1)) (ix := ix) (sz := sz) (pf := nI p) (sc := nI c) (ye := -1) (yj := 0) (st := st) (kd := kd) (pl := pl) (wd := wd) (tm := tm) (dg := dg) (dc := dc) (ss := ss) (pc := pc) (op := op) (ox := ox) (oy := oy) (oz := oz) (ps := ps) (jp := jp) (oi := oi) (pa := pa) (pt := pt) (sh := sh) (lc := lc) (rc := rc) (dr := dr) (ln := ln) (sn := sn) (sd := sd) (ch := ch) (oth := oth) (lw := lw) (hg := hg) (le := le) (bk := bk) (fm := fm) (vy := vy) hj R hX
  obtain ⟨je, jlt, jp1, jp2⟩ := Pg.2.2.2.2 h hh (by rw [e1]; unfold ck_o pw_i; decide)
  have ejp : jp (nI h).toNatClampNeg = nI (je + 1) := by rw [ch1, jp2]
  rcases hr1 with e0 | e0 <;> subst e0
  · obtain ⟨u', v', R', gX, gY⟩ := fg_go (fp := fp) (pg := pg) (ob := ob) (hr := nI h) (ix := ix) (sz := sz) (st := st) (kd := kd) (pl := pl) (wd := wd) (tm := tm) (dg := dg) (dc := dc) (ss := ss) (pc := pc) (op := op) (ox := ox) (oy := oy) (oz := oz) (ps := ps) (jp := jp) (oi := oi) (pa := pa) (pt := pt) (sh := sh) (lc := lc) (rc := rc) (dr := dr) (ln := ln) (sn := sn) (sd := sd) (ch := ch') (oth := oth) (lw := lw) (hg := hg) (le := le) (bk := bk) (fm := fm) (vy := vy) (t := t) (c := c) (h := je + 1) hn (show je + 1 ≤ n by omega) hp6 (by omega) ((show c ≤ 12 * (t + 1) by omega)) hsz ok hA Pg hF
    refine Or.inr ⟨u', v', R', fun post hp => ?_, fun post hp => ?_⟩
    · exact br_t (nI_lt hh (by omega)) (br_t (nI_lt (b := 500) ht (by decide)) (nm_r (nI_1 t) ⟨vh, nm_r eo ⟨vh, nm_r ex ⟨vh, nm_r ey ⟨vh, nm_r ez (xm_tab (o := 12) (by decide) (fun w => absurd w hnb) (fun _ => br_t rfl (nm_r (nI_1 h) (br_f (by decide) (br_f (by decide) (br_f (by decide) (br_f (by decide) (br_f (by decide) (br_f (by decide) (br_f (by decide) (br_f (by decide) (br_f (by decide) (br_f (by decide) (br_f (by decide) (br_f (by decide) (br_f (by decide) (br_t rfl (br_f (by decide) (br_t rfl (mX _ ⟨nb_0, br_t rfl ⟨vh, by rw [ejp]; exact gX post hp⟩⟩))))))))))))))))))))⟩⟩⟩⟩))
    · obtain ⟨m, hm⟩ := gY post hp
      exact yg_step hn hh hp6 ht Pg hal ⟨m, ym_tab (o := 12) (by omega) (by decide) e1 e2 e3 e4 hxi hyi (fun w => absurd w hnb) (fun _ => by
        refine br_f (by decide) (br_f (by decide) (br_f (by decide) (yc_182 (by decide) ?_)))
        unfold wY_step_215
        refine yi_in (fun _ _ => br_f (by decide) (br_f (by decide) (br_t rfl (mY _ ?_)))) (fun w => absurd ⟨by decide, by decide⟩ w)
        exact br_t rfl (yb_part (by omega) jp1 (yc_280 (by decide) (by decide) (by decide) (by decide) (by decide) (by decide) (by decide) (by rw [nI_1]; exact hm))))⟩
  · obtain ⟨u', v', R', gX, gY⟩ := fg_go (fp := fp) (pg := pg) (ob := ob) (hr := nI h) (ix := ix) (sz := sz) (st := st) (kd := kd) (pl := pl) (wd := wd) (tm := tm) (dg := dg) (dc := dc) (ss := ss) (pc := pc) (op := op) (ox := ox) (oy := oy) (oz := oz) (ps := ps) (jp := jp) (oi := oi) (pa := pa) (pt := pt) (sh := sh) (lc := lc) (rc := rc) (dr := dr) (ln := ln) (sn := sn) (sd := sd) (ch := ch') (oth := oth) (lw := lw) (hg := hg) (le := le) (bk := bk) (fm := fm) (vy := vy) (t := t) (c := c) (h := h + 1) hn (show h + 1 ≤ n by omega) hp6 (by omega) ((show c ≤ 12 * (t + 1) by omega)) hsz ok hA Pg hF
    refine Or.inr ⟨u', v', R', fun post hp => ?_, fun post hp => ?_⟩
    · exact br_t (nI_lt hh (by omega)) (br_t (nI_lt (b := 500) ht (by decide)) (nm_r (nI_1 t) ⟨vh, nm_r eo ⟨vh, nm_r ex ⟨vh, nm_r ey ⟨vh, nm_r ez (xm_tab (o := 12) (by decide) (fun w => absurd w hnb) (fun _ => br_t rfl (nm_r (nI_1 h) (br_f (by decide) (br_f (by decide) (br_f (by decide) (br_f (by decide) (br_f (by decide) (br_f (by decide) (br_f (by decide) (br_f (by decide) (br_f (by decide) (br_f (by decide) (br_f (by decide) (br_f (by decide) (br_f (by decide) (br_t rfl (br_f (by decide) (br_t rfl (mX _ ⟨nb_1, br_f (by decide) (gX post hp)⟩))))))))))))))))))))⟩⟩⟩⟩))
    · obtain ⟨m, hm⟩ := gY post hp
      exact yg_step hn hh hp6 ht Pg hal ⟨m, ym_tab (o := 12) (by omega) (by decide) e1 e2 e3 e4 hxi hyi (fun w => absurd w hnb) (fun _ => by
        refine br_f (by decide) (br_f (by decide) (br_f (by decide) (yc_182 (by decide) ?_)))
        unfold wY_step_215
        refine yi_in (fun _ _ => br_f (by decide) (br_f (by decide) (br_t rfl (mY _ ?_)))) (fun w => absurd ⟨by decide, by decide⟩ w)
        exact br_f (by decide) (yc_280 (by decide) (by decide) (by decide) (by decide) (by decide) (by decide) (by decide) (by rw [nI_1]; exact hm)))⟩
theorem so_13 (H : sh_H n h p c t 13 ix sz yj x y z st kd pl wd tm dg dc ss pc ln sn sd op ox oy oz ps jp pa pt lw hg le bk fm vy) : so_O t (nI n, 1, fp, pg, ob, nI h, nI t, ix, sz, nI p, nI c, st, kd, pl, wd, tm, dg, dc, ss, pc, op, ox, oy, oz, ps, jp, oi, pa, pt, sh, lc, rc, dr) (nI n, fp, 1, nI p, nI h, nI t, ix, nI c, (-1), sz, yj, st, kd, pl, ln, dc, tm, sn, sd, op, ox, oy, oz, sh, ch, oth, lw, hg, le, bk, fm, vy) := by
  obtain ⟨hn, hh, hp6, ht, hc, hsz, ok, hA, Pg, hF, hal, ⟨e1, e2, e3, e4⟩, hft, hnb⟩ := H
  have vh : vp_in (nI h) 48 := vp_in_nI (by omega) (by decide)
  have ch1 : (nI h).toNatClampNeg = h := nI_clamp (by omega)
  have eo : op (nI h).toNatClampNeg = nI 13 := by rw [ch1, e1]
  have ex : ox (nI h).toNatClampNeg = x := by rw [ch1, e2]
  have ey : oy (nI h).toNatClampNeg = y := by rw [ch1, e3]
  have ez : oz (nI h).toNatClampNeg = z := by rw [ch1, e4]
  have hxi : 1 ≤ ms_c 13 → x = 16 ∨ ft_i kd x := (fun w => absurd w (by decide))
  have hyi : ms_c 13 = 2 → ft_i kd y := (fun w => absurd w (by decide))
  obtain ⟨je, jlt, jp1, jp2⟩ := Pg.2.2.2.2 h hh (by rw [e1]; unfold ck_o pw_i; decide)
  have ejp : jp (nI h).toNatClampNeg = nI (je + 1) := by rw [ch1, jp2]
  obtain ⟨u', v', R', gX, gY⟩ := fg_go (fp := fp) (pg := pg) (ob := ob) (hr := nI h) (ix := ix) (sz := sz) (st := st) (kd := kd) (pl := pl) (wd := wd) (tm := tm) (dg := dg) (dc := dc) (ss := ss) (pc := pc) (op := op) (ox := ox) (oy := oy) (oz := oz) (ps := ps) (jp := jp) (oi := oi) (pa := pa) (pt := pt) (sh := sh) (lc := lc) (rc := rc) (dr := dr) (ln := ln) (sn := sn) (sd := sd) (ch := ch) (oth := oth) (lw := lw) (hg := hg) (le := le) (bk := bk) (fm := fm) (vy := vy) (t := t) (c := c) (h := je + 1) hn (show je + 1 ≤ n by omega) hp6 (by omega) ((show c ≤ 12 * (t + 1) by omega)) hsz ok hA Pg hF
  refine Or.inr ⟨u', v', R', fun post hp => ?_, fun post hp => ?_⟩
  · exact br_t (nI_lt hh (by omega)) (br_t (nI_lt (b := 500) ht (by decide)) (nm_r (nI_1 t) ⟨vh, nm_r eo ⟨vh, nm_r ex ⟨vh, nm_r ey ⟨vh, nm_r ez (xm_tab (o := 13) (by decide) (fun w => absurd w hnb) (fun _ => br_t rfl (nm_r (nI_1 h) (br_f (by decide) (br_f (by decide) (br_f (by decide) (br_f (by decide) (br_f (by decide) (br_f (by decide) (br_f (by decide) (br_f (by decide) (br_f (by decide) (br_f (by decide) (br_f (by decide) (br_f (by decide) (br_f (by decide) (br_f (by decide) (br_t rfl (⟨vh, nm_r ejp (gX post hp)⟩)))))))))))))))))))⟩⟩⟩⟩))
  · obtain ⟨m, hm⟩ := gY post hp
    exact yg_step hn hh hp6 ht Pg hal ⟨m, ym_tab (o := 13) (by omega) (by decide) e1 e2 e3 e4 hxi hyi (fun w => absurd w hnb) (fun _ => br_f (by decide) (br_f (by decide) (br_f (by decide) (yc_182 (by decide) (yc_215 (by decide) (br_t rfl (yb_part (by omega) jp1 (br_f (by decide) (yc_320 (by decide) (by decide) (by decide) (by decide) (by decide) (by rw [nI_1]; exact hm))))))))))⟩
theorem so_17 (H : sh_H n h p c t 17 ix sz yj x y z st kd pl wd tm dg dc ss pc ln sn sd op ox oy oz ps jp pa pt lw hg le bk fm vy) : so_O t (nI n, 1, fp, pg, ob, nI h, nI t, ix, sz, nI p, nI c, st, kd, pl, wd, tm, dg, dc, ss, pc, op, ox, oy, oz, ps, jp, oi, pa, pt, sh, lc, rc, dr) (nI n, fp, 1, nI p, nI h, nI t, ix, nI c, (-1), sz, yj, st, kd, pl, ln, dc, tm, sn, sd, op, ox, oy, oz, sh, ch, oth, lw, hg, le, bk, fm, vy) := by
  obtain ⟨hn, hh, hp6, ht, hc, hsz, ok, hA, Pg, hF, hal, ⟨e1, e2, e3, e4⟩, hft, hnb⟩ := H
  have vh : vp_in (nI h) 48 := vp_in_nI (by omega) (by decide)
  have ch1 : (nI h).toNatClampNeg = h := nI_clamp (by omega)
  have eo : op (nI h).toNatClampNeg = nI 17 := by rw [ch1, e1]
  have ex : ox (nI h).toNatClampNeg = x := by rw [ch1, e2]
  have ey : oy (nI h).toNatClampNeg = y := by rw [ch1, e3]
  have ez : oz (nI h).toNatClampNeg = z := by rw [ch1, e4]
  obtain ⟨a, rfl, ha⟩ := hft.2.2.2.2.2.1 rfl
  have hxi : 1 ≤ ms_c 17 → nI a = 16 ∨ ft_i kd (nI a) := (fun w => absurd w (by decide))
  have hyi : ms_c 17 = 2 → ft_i kd y := (fun w => absurd w (by decide))
  have hbn := tb_le op n
  obtain ⟨k0, e, a1, a2, a3, a4, -⟩ := tb_par Pg.2.2.1 ha
  refine Or.inr ⟨(nI n, 1, fp, pg, ob, nI k0, nI (t + 1), ix, sz, nI p, nI c, st, kd, pl, wd, tm, dg, dc, ss, pc, op, ox, oy, oz, ps, jp, oi, pa, pt, sh, lc, rc, dr), (nI n, fp, 1, nI p, nI k0, nI (t + 1), ix, nI c, (-1), sz, 1, st, kd, pl, ln, dc, tm, sn, sd, op, ox, oy, oz, sh, ch, oth, lw, hg, le, bk, fm, vy), ⟨⟨rfl, rfl, rfl, rfl, rfl, rfl, rfl, rfl, rfl, rfl, rfl, rfl, rfl, rfl, rfl, rfl, rfl⟩, ⟨rfl, rfl⟩, n, k0, p, c, ⟨rfl, rfl, rfl, rfl, rfl, rfl, rfl⟩, hn, by omega, hp6, by omega, by omega, hsz, Or.inr rfl, ok, hA, Pg, hF, Or.inl (by decide)⟩, fun post hp => ?_, fun post hp => ?_⟩
  · have ea : ps (nI a).toNatClampNeg = nI k0 := by rw [nI_clamp (by omega), a4]
    exact br_t (nI_lt hh (by omega)) (br_t (nI_lt (b := 500) ht (by decide)) (nm_r (nI_1 t) ⟨vh, nm_r eo ⟨vh, nm_r ex ⟨vh, nm_r ey ⟨vh, nm_r ez (xm_tab (o := 17) (by decide) (fun w => absurd w hnb) (fun _ => br_t rfl (nm_r (nI_1 h) (br_f (by decide) (br_f (by decide) (br_f (by decide) (br_f (by decide) (br_f (by decide) (br_f (by decide) (br_f (by decide) (br_f (by decide) (br_f (by decide) (br_f (by decide) (br_f (by decide) (br_f (by decide) (br_f (by decide) (br_f (by decide) (br_f (by decide) (br_f (by decide) (br_f (by decide) (br_f (by decide) (br_t rfl (⟨vp_in_nI (by omega) (by decide), nm_r ea hp⟩)))))))))))))))))))))))⟩⟩⟩⟩))
  · obtain ⟨m, hm⟩ := hp
    have em : nI k0 - 1 + 1 = nI k0 := Int32.sub_add_cancel _ _
    exact yg_step hn hh hp6 ht Pg hal ⟨m, ym_tab (o := 17) (by omega) (by decide) e1 e2 e3 e4 hxi hyi (fun w => absurd w hnb) (fun _ => br_f (by decide) (br_f (by decide) (br_f (by decide) (yc_182 (by decide) (yc_215 (by decide) (br_f (by decide) (br_t rfl (yb_begin (by omega) a2 a3 (nm_e (yc_320 (by decide) (by decide) (by decide) (by decide) (by decide) (by rw [em]; exact hm)))))))))))⟩
theorem so_18 (H : sh_H n h p c t 18 ix sz yj x y z st kd pl wd tm dg dc ss pc ln sn sd op ox oy oz ps jp pa pt lw hg le bk fm vy) : so_O t (nI n, 1, fp, pg, ob, nI h, nI t, ix, sz, nI p, nI c, st, kd, pl, wd, tm, dg, dc, ss, pc, op, ox, oy, oz, ps, jp, oi, pa, pt, sh, lc, rc, dr) (nI n, fp, 1, nI p, nI h, nI t, ix, nI c, (-1), sz, yj, st, kd, pl, ln, dc, tm, sn, sd, op, ox, oy, oz, sh, ch, oth, lw, hg, le, bk, fm, vy) := by
  obtain ⟨hn, hh, hp6, ht, hc, hsz, ok, hA, Pg, hF, hal, ⟨e1, e2, e3, e4⟩, hft, hnb⟩ := H
  have vh : vp_in (nI h) 48 := vp_in_nI (by omega) (by decide)
  have ch1 : (nI h).toNatClampNeg = h := nI_clamp (by omega)
  have eo : op (nI h).toNatClampNeg = nI 18 := by rw [ch1, e1]
  have ex : ox (nI h).toNatClampNeg = x := by rw [ch1, e2]
  have ey : oy (nI h).toNatClampNeg = y := by rw [ch1, e3]
  have ez : oz (nI h).toNatClampNeg = z := by rw [ch1, e4]
  have hxi : 1 ≤ ms_c 18 → x = 16 ∨ ft_i kd x := (fun w => absurd w (by decide))
  have hyi : ms_c 18 = 2 → ft_i kd y := (fun w => absurd w (by decide))
  refine Or.inl ⟨0, (nI n, 1, fp, pg, ob, nI h, nI (t + 1), ix, sz, nI p, nI c, st, kd, pl, wd, tm, dg, dc, ss, pc, op, ox, oy, oz, ps, jp, oi, pa, pt, sh, lc, rc, dr), (nI n, fp, 1, nI p, nI h + 1, nI (t + 1), ix, nI c, 0, sz, 0, st, kd, pl, ln, dc, tm, sn, sd, op, ox, oy, oz, sh, ch, oth, lw, hg, le, bk, fm, vy), by decide, ⟨⟨rfl, rfl, rfl, rfl, rfl, rfl, rfl, rfl, rfl, rfl, rfl, rfl, rfl, rfl, rfl, rfl, rfl⟩, rl_of hn hsz ok hA Pg rfl⟩, fun post hp => ?_, fun post hp => ?_⟩
  · exact br_t (nI_lt hh (by omega)) (br_t (nI_lt (b := 500) ht (by decide)) (nm_r (nI_1 t) ⟨vh, nm_r eo ⟨vh, nm_r ex ⟨vh, nm_r ey ⟨vh, nm_r ez (xm_tab (o := 18) (by decide) (fun w => absurd w hnb) (fun _ => br_t rfl (nm_r (nI_1 h) (br_f (by decide) (br_f (by decide) (br_f (by decide) (br_f (by decide) (br_f (by decide) (br_f (by decide) (br_f (by decide) (br_f (by decide) (br_f (by decide) (br_f (by decide) (br_f (by decide) (br_f (by decide) (br_f (by decide) (br_f (by decide) (br_f (by decide) (br_f (by decide) (br_f (by decide) (br_f (by decide) (br_f (by decide) (br_t rfl (hp))))))))))))))))))))))))⟩⟩⟩⟩))
  · exact yg_step hn hh hp6 ht Pg hal ⟨1, ym_tab (o := 18) (by omega) (by decide) e1 e2 e3 e4 hxi hyi (fun w => absurd w hnb) (fun _ => br_f (by decide) (br_f (by decide) (br_f (by decide) (yc_182 (by decide) (yc_215 (by decide) (br_f (by decide) (br_f (by decide) (br_t rfl (br_f (by decide) (br_f (by decide) (br_f (by decide) (br_f (by decide) (nm_e (br_t (by decide) hp))))))))))))))⟩
theorem so_21 (H : sh_H n h p c t 21 ix sz yj x y z st kd pl wd tm dg dc ss pc ln sn sd op ox oy oz ps jp pa pt lw hg le bk fm vy) : so_O t (nI n, 1, fp, pg, ob, nI h, nI t, ix, sz, nI p, nI c, st, kd, pl, wd, tm, dg, dc, ss, pc, op, ox, oy, oz, ps, jp, oi, pa, pt, sh, lc, rc, dr) (nI n, fp, 1, nI p, nI h, nI t, ix, nI c, (-1), sz, yj, st, kd, pl, ln, dc, tm, sn, sd, op, ox, oy, oz, sh, ch, oth, lw, hg, le, bk, fm, vy) := by
  obtain ⟨hn, hh, hp6, ht, hc, hsz, ok, hA, Pg, hF, hal, ⟨e1, e2, e3, e4⟩, hft, hnb⟩ := H
  have vh : vp_in (nI h) 48 := vp_in_nI (by omega) (by decide)
  have ch1 : (nI h).toNatClampNeg = h := nI_clamp (by omega)
  have eo : op (nI h).toNatClampNeg = nI 21 := by rw [ch1, e1]
  have ex : ox (nI h).toNatClampNeg = x := by rw [ch1, e2]
  have ey : oy (nI h).toNatClampNeg = y := by rw [ch1, e3]
  have ez : oz (nI h).toNatClampNeg = z := by rw [ch1, e4]
  have hxi : 1 ≤ ms_c 21 → x = 16 ∨ ft_i kd x := (fun w => absurd w (by decide))
  have hyi : ms_c 21 = 2 → ft_i kd y := (fun w => absurd w (by decide))
  obtain ⟨u', v', R', gX, gY⟩ := fg_go (fp := fp) (pg := pg) (ob := ob) (hr := nI h) (ix := ix + z) (sz := sz) (st := st) (kd := kd) (pl := pl) (wd := wd) (tm := tm) (dg := dg) (dc := dc) (ss := ss) (pc := pc) (op := op) (ox := ox) (oy := oy) (oz := oz) (ps := ps) (jp := jp) (oi := oi) (pa := pa) (pt := pt) (sh := sh) (lc := lc) (rc := rc) (dr := dr) (ln := ln) (sn := sn) (sd := sd) (ch := ch) (oth := oth) (lw := lw) (hg := hg) (le := le) (bk := bk) (fm := fm) (vy := vy) (t := t) (c := c) (h := h + 1) hn (show h + 1 ≤ n by omega) hp6 (by omega) ((show c ≤ 12 * (t + 1) by omega)) hsz ok hA Pg hF
  refine Or.inr ⟨u', v', R', fun post hp => ?_, fun post hp => ?_⟩
  · exact br_t (nI_lt hh (by omega)) (br_t (nI_lt (b := 500) ht (by decide)) (nm_r (nI_1 t) ⟨vh, nm_r eo ⟨vh, nm_r ex ⟨vh, nm_r ey ⟨vh, nm_r ez (xm_tab (o := 21) (by decide) (fun w => absurd w hnb) (fun _ => br_t rfl (nm_r (nI_1 h) (br_f (by decide) (br_f (by decide) (br_f (by decide) (br_f (by decide) (br_f (by decide) (br_f (by decide) (br_f (by decide) (br_f (by decide) (br_f (by decide) (br_f (by decide) (br_f (by decide) (br_f (by decide) (br_f (by decide) (br_f (by decide) (br_f (by decide) (br_f (by decide) (br_f (by decide) (br_f (by decide) (br_f (by decide) (br_f (by decide) (br_f (by decide) (br_f (by decide) (br_t rfl (nm_e (gX post hp))))))))))))))))))))))))))))⟩⟩⟩⟩))
  · obtain ⟨m, hm⟩ := gY post hp
    exact yg_step hn hh hp6 ht Pg hal ⟨m, ym_tab (o := 21) (by omega) (by decide) e1 e2 e3 e4 hxi hyi (fun w => absurd w hnb) (fun _ => br_f (by decide) (br_f (by decide) (br_f (by decide) (yc_182 (by decide) (yc_215 (by decide) (br_f (by decide) (br_f (by decide) (br_f (by decide) (br_f (by decide) (br_f (by decide) (br_t rfl (nm_e (br_f (by decide) (nm_r (nI_1 h) hm))))))))))))))⟩
theorem so_19 (H : sh_H n h p c t 19 ix sz yj x y z st kd pl wd tm dg dc ss pc ln sn sd op ox oy oz ps jp pa pt lw hg le bk fm vy) : so_O t (nI n, 1, fp, pg, ob, nI h, nI t, ix, sz, nI p, nI c, st, kd, pl, wd, tm, dg, dc, ss, pc, op, ox, oy, oz, ps, jp, oi, pa, pt, sh, lc, rc, dr) (nI n, fp, 1, nI p, nI h, nI t, ix, nI c, (-1), sz, yj, st, kd, pl, ln, dc, tm, sn, sd, op, ox, oy, oz, sh, ch, oth, lw, hg, le, bk, fm, vy) := by
  obtain ⟨hn, hh, hp6, ht, hc, hsz, ok, hA, Pg, hF, hal, ⟨e1, e2, e3, e4⟩, hft, hnb⟩ := H
  have vh : vp_in (nI h) 48 := vp_in_nI (by omega) (by decide)
  have ch1 : (nI h).toNatClampNeg = h := nI_clamp (by omega)
  have eo : op (nI h).toNatClampNeg = nI 19 := by rw [ch1, e1]
  have ex : ox (nI h).toNatClampNeg = x := by rw [ch1, e2]
  have ey : oy (nI h).toNatClampNeg = y := by rw [ch1, e3]
  have ez : oz (nI h).toNatClampNeg = z := by rw [ch1, e4]
  have f1 := hft.2.2.2.2.2.2.1 rfl
  have hxi : 1 ≤ ms_c 19 → x = 16 ∨ ft_i kd x := fun _ => f1
  have hyi : ms_c 19 = 2 → ft_i kd y := (fun w => absurd w (by decide))
  have f0 := f1
  rcases f0 with rfl | f2
  · obtain ⟨u', v', R', gX, gY⟩ := fg_go (fp := fp) (pg := pg) (ob := ob) (hr := nI h) (ix := ix) (sz := sz) (st := st) (kd := kd) (pl := pl) (wd := wd) (tm := tm) (dg := dg) (dc := dc) (ss := ss) (pc := pc) (op := op) (ox := ox) (oy := oy) (oz := oz) (ps := ps) (jp := jp) (oi := oi) (pa := pa) (pt := pt) (sh := sh) (lc := lc) (rc := rc) (dr := dr) (ln := ln) (sn := sn) (sd := sd) (ch := ch) (oth := oth) (lw := lw) (hg := hg) (le := le) (bk := bk) (fm := fm) (vy := vy) (t := t) (c := c) (h := h + 1) hn (show h + 1 ≤ n by omega) hp6 (by omega) ((show c ≤ 12 * (t + 1) by omega)) hsz ok hA Pg hF
    refine Or.inr ⟨u', v', R', fun post hp => ?_, fun post hp => ?_⟩
    · exact br_t (nI_lt hh (by omega)) (br_t (nI_lt (b := 500) ht (by decide)) (nm_r (nI_1 t) ⟨vh, nm_r eo ⟨vh, nm_r ex ⟨vh, nm_r ey ⟨vh, nm_r ez (xm_tab (o := 19) (by decide) (fun w => absurd w hnb) (fun _ => br_t rfl (nm_r (nI_1 h) (br_f (by decide) (br_f (by decide) (br_f (by decide) (br_f (by decide) (br_f (by decide) (br_f (by decide) (br_f (by decide) (br_f (by decide) (br_f (by decide) (br_f (by decide) (br_f (by decide) (br_f (by decide) (br_f (by decide) (br_f (by decide) (br_f (by decide) (br_f (by decide) (br_f (by decide) (br_f (by decide) (br_f (by decide) (br_f (by decide) (br_t rfl (br_t rfl (gX post hp))))))))))))))))))))))))))⟩⟩⟩⟩))
    · obtain ⟨m, hm⟩ := gY post hp
      exact yg_step hn hh hp6 ht Pg hal ⟨m, ym_tab (o := 19) (by omega) (by decide) e1 e2 e3 e4 hxi hyi (fun w => absurd w hnb) (fun _ => br_f (by decide) (br_f (by decide) (br_f (by decide) (yc_182 (by decide) (yc_215 (by decide) (br_f (by decide) (br_f (by decide) (br_f (by decide) (br_t rfl (br_t rfl (br_f (by decide) (br_f (by decide) (br_f (by decide) (nm_r (nI_1 h) hm))))))))))))))⟩
  · obtain ⟨j, K, A, W, T, D, B, S, L, e, hj, rfl, R, hX⟩ := ac_ex hA f2 (fun w => hnb (Or.inl ⟨by decide, w⟩))
    have hW := it_W12 R
    obtain ⟨mX, mY⟩ := dp_pair (cn := nI n) (ck := 1) (fp := fp) (pg := pg) (ob := ob) (hr := nI h) (sp := nI (t + 1)) (ix := ix) (sz := sz) (pf := nI p) (ye := -1) (yj := 0) (st := st) (kd := kd) (pl := pl) (wd := wd) (tm := tm) (dg := dg) (dc := dc) (ss := ss) (pc := pc) (op := op) (ox := ox) (oy := oy) (oz := oz) (ps := ps) (jp := jp) (oi := oi) (pa := pa) (pt := pt) (sh := sh) (lc := lc) (rc := rc) (dr := dr) (ln := ln) (sn := sn) (sd := sd) (ch := ch) (oth := oth) (lw := lw) (hg := hg) (le := le) (bk := bk) (fm := fm) (vy := vy) (c := c) hj R hX (by omega)
    obtain ⟨u', v', R', gX, gY⟩ := fg_go (fp := fp) (pg := pg) (ob := ob) (hr := nI h) (ix := ix) (sz := sz) (st := st) (kd := kd) (pl := pl) (wd := wd) (tm := tm) (dg := dg) (dc := dc) (ss := ss) (pc := pc) (op := op) (ox := ox) (oy := oy) (oz := oz) (ps := ps) (jp := jp) (oi := oi) (pa := pa) (pt := pt) (sh := dp_f sh c st (A + (e - 1) * W) W) (lc := lc) (rc := rc) (dr := dr) (ln := ln) (sn := sn) (sd := sd) (ch := sg_put ch 0 0 W (fun i => st (A + (e - 1) * W + 0 + i))) (oth := oth) (lw := lw) (hg := hg) (le := le) (bk := bk) (fm := fm) (vy := vy) (t := t) (c := c + W) (h := h + 1) hn (show h + 1 ≤ n by omega) hp6 (by omega) ((show c + W ≤ 12 * (t + 1) by omega)) hsz ok hA Pg hF
    refine Or.inr ⟨u', v', R', fun post hp => ?_, fun post hp => ?_⟩
    · exact br_t (nI_lt hh (by omega)) (br_t (nI_lt (b := 500) ht (by decide)) (nm_r (nI_1 t) ⟨vh, nm_r eo ⟨vh, nm_r ex ⟨vh, nm_r ey ⟨vh, nm_r ez (xm_tab (o := 19) (by decide) (fun w => absurd w hnb) (fun _ => br_t rfl (nm_r (nI_1 h) (br_f (by decide) (br_f (by decide) (br_f (by decide) (br_f (by decide) (br_f (by decide) (br_f (by decide) (br_f (by decide) (br_f (by decide) (br_f (by decide) (br_f (by decide) (br_f (by decide) (br_f (by decide) (br_f (by decide) (br_f (by decide) (br_f (by decide) (br_f (by decide) (br_f (by decide) (br_f (by decide) (br_f (by decide) (br_f (by decide) (br_t rfl (mX _ (gX post hp))))))))))))))))))))))))))⟩⟩⟩⟩))
    · obtain ⟨m, hm⟩ := gY post hp
      exact yg_step hn hh hp6 ht Pg hal ⟨m, ym_tab (o := 19) (by omega) (by decide) e1 e2 e3 e4 hxi hyi (fun w => absurd w hnb) (fun _ => br_f (by decide) (br_f (by decide) (br_f (by decide) (yc_182 (by decide) (yc_215 (by decide) (br_f (by decide) (br_f (by decide) (br_f (by decide) (br_t rfl (br_f (nI_16 hj) (mY _ (br_f (by decide) (br_f (by decide) (br_f (by decide) (nm_r (nI_1 h) hm)))))))))))))))⟩
theorem so_22 (H : sh_H n h p c t 22 ix sz yj x y z st kd pl wd tm dg dc ss pc ln sn sd op ox oy oz ps jp pa pt lw hg le bk fm vy) : so_O t (nI n, 1, fp, pg, ob, nI h, nI t, ix, sz, nI p, nI c, st, kd, pl, wd, tm, dg, dc, ss, pc, op, ox, oy, oz, ps, jp, oi, pa, pt, sh, lc, rc, dr) (nI n, fp, 1, nI p, nI h, nI t, ix, nI c, (-1), sz, yj, st, kd, pl, ln, dc, tm, sn, sd, op, ox, oy, oz, sh, ch, oth, lw, hg, le, bk, fm, vy) := by
  obtain ⟨hn, hh, hp6, ht, hc, hsz, ok, hA, Pg, hF, hal, ⟨e1, e2, e3, e4⟩, hft, hnb⟩ := H
  have vh : vp_in (nI h) 48 := vp_in_nI (by omega) (by decide)
  have ch1 : (nI h).toNatClampNeg = h := nI_clamp (by omega)
  have eo : op (nI h).toNatClampNeg = nI 22 := by rw [ch1, e1]
  have ex : ox (nI h).toNatClampNeg = x := by rw [ch1, e2]
  have ey : oy (nI h).toNatClampNeg = y := by rw [ch1, e3]
  have ez : oz (nI h).toNatClampNeg = z := by rw [ch1, e4]
  obtain ⟨f1, f2⟩ := hft.2.2.2.2.2.2.2.2 rfl
  have f3 := fs_i (by decide) f2
  have hxi : 1 ≤ ms_c 22 → x = 16 ∨ ft_i kd x := fun _ => Or.inr f1
  have hyi : ms_c 22 = 2 → ft_i kd y := fun _ => f3
  obtain ⟨j, K, A, W, T, D, B, S, L, e, hj, rfl, R, hX⟩ := ac_ex hA f1 (fun w => hnb (Or.inl ⟨by decide, w⟩))
  obtain ⟨j', K', A', W', T', D', B', S', L', e', hj', rfl, R', hX'⟩ := ac_ex hA f3 (fun w => hnb (Or.inr ⟨rfl, w⟩))
  obtain ⟨st', dr', oth', ch', ok', mX, mY⟩ := ty_pair (cn := nI n) (ck := 1) (fp := fp) (pg := pg) (ob := ob) (hr := nI h) (sp := nI (t + 1)) (ix := ix) (sz := sz) (pf := nI p) (sc := nI c) (ye := -1) (yj := 0) (st := st) (kd := kd) (pl := pl) (wd := wd) (tm := tm) (dg := dg) (dc := dc) (ss := ss) (pc := pc) (op := op) (ox := ox) (oy := oy) (oz := oz) (ps := ps) (jp := jp) (oi := oi) (pa := pa) (pt := pt) (sh := sh) (lc := lc) (rc := rc) (dr := dr) (ln := ln) (sn := sn) (sd := sd) (ch := ch) (oth := oth) (lw := lw) (hg := hg) (le := le) (bk := bk) (fm := fm) (vy := vy) (z := z) ok hj R hX hj' R' hX' (fs_K (s := 1) hj' (by omega) f2 R')
  obtain ⟨u', v', R'', gX, gY⟩ := fg_go (fp := fp) (pg := pg) (ob := ob) (hr := nI h) (ix := ix) (sz := sz) (st := st') (kd := kd) (pl := pl) (wd := wd) (tm := tm) (dg := dg) (dc := dc) (ss := ss) (pc := pc) (op := op) (ox := ox) (oy := oy) (oz := oz) (ps := ps) (jp := jp) (oi := oi) (pa := pa) (pt := pt) (sh := sh) (lc := lc) (rc := rc) (dr := dr') (ln := ln) (sn := sn) (sd := sd) (ch := ch') (oth := oth') (lw := lw) (hg := hg) (le := le) (bk := bk) (fm := fm) (vy := vy) (t := t) (c := c) (h := h + 1) hn (show h + 1 ≤ n by omega) hp6 (by omega) ((show c ≤ 12 * (t + 1) by omega)) hsz ok' hA Pg hF
  refine Or.inr ⟨u', v', R'', fun post hp => ?_, fun post hp => ?_⟩
  · exact br_t (nI_lt hh (by omega)) (br_t (nI_lt (b := 500) ht (by decide)) (nm_r (nI_1 t) ⟨vh, nm_r eo ⟨vh, nm_r ex ⟨vh, nm_r ey ⟨vh, nm_r ez (xm_tab (o := 22) (by decide) (fun w => absurd w hnb) (fun _ => br_t rfl (nm_r (nI_1 h) (br_f (by decide) (br_f (by decide) (br_f (by decide) (br_f (by decide) (br_f (by decide) (br_f (by decide) (br_f (by decide) (br_f (by decide) (br_f (by decide) (br_f (by decide) (br_f (by decide) (br_f (by decide) (br_f (by decide) (br_f (by decide) (br_f (by decide) (br_f (by decide) (br_f (by decide) (br_f (by decide) (br_f (by decide) (br_f (by decide) (br_f (by decide) (br_f (by decide) (br_f (by decide) (br_t rfl (mX _ (gX post hp)))))))))))))))))))))))))))))⟩⟩⟩⟩))
  · obtain ⟨m, hm⟩ := gY post hp
    exact yg_step hn hh hp6 ht Pg hal ⟨m, ym_tab (o := 22) (by omega) (by decide) e1 e2 e3 e4 hxi hyi (fun w => absurd w hnb) (fun _ => br_f (by decide) (br_f (by decide) (br_f (by decide) (yc_182 (by decide) (yc_215 (by decide) (br_f (by decide) (br_f (by decide) (br_f (by decide) (br_f (by decide) (br_f (by decide) (br_f (by decide) (br_t rfl (mY _ (nm_r (nI_1 h) hm))))))))))))))⟩
theorem so_20 (H : sh_H n h p c t 20 ix sz yj x y z st kd pl wd tm dg dc ss pc ln sn sd op ox oy oz ps jp pa pt lw hg le bk fm vy) : so_O t (nI n, 1, fp, pg, ob, nI h, nI t, ix, sz, nI p, nI c, st, kd, pl, wd, tm, dg, dc, ss, pc, op, ox, oy, oz, ps, jp, oi, pa, pt, sh, lc, rc, dr) (nI n, fp, 1, nI p, nI h, nI t, ix, nI c, (-1), sz, yj, st, kd, pl, ln, dc, tm, sn, sd, op, ox, oy, oz, sh, ch, oth, lw, hg, le, bk, fm, vy) := by
  obtain ⟨hn, hh, hp6, ht, hc, hsz, ok, hA, Pg, hF, hal, ⟨e1, e2, e3, e4⟩, hft, hnb⟩ := H
  have vh : vp_in (nI h) 48 := vp_in_nI (by omega) (by decide)
  have ch1 : (nI h).toNatClampNeg = h := nI_clamp (by omega)
  have eo : op (nI h).toNatClampNeg = nI 20 := by rw [ch1, e1]
  have ex : ox (nI h).toNatClampNeg = x := by rw [ch1, e2]
  have ey : oy (nI h).toNatClampNeg = y := by rw [ch1, e3]
  have ez : oz (nI h).toNatClampNeg = z := by rw [ch1, e4]
  have f1 := hft.2.2.2.2.2.2.2.1 rfl
  have f0 : x = 16 ∨ ft_i kd x := f1.imp id (fs_i (by decide))
  have hxi : 1 ≤ ms_c 20 → x = 16 ∨ ft_i kd x := fun _ => f0
  have hyi : ms_c 20 = 2 → ft_i kd y := (fun w => absurd w (by decide))
  obtain ⟨V, d, O⟩ := od_ex (st := st) (z := z) hA f0 (fun w => hnb (Or.inl ⟨by decide, w⟩))
  obtain ⟨b1, b2⟩ := od_b O
  obtain ⟨s, m0, g1, g2, g3⟩ := ar_ex V
  have eq0 : rd_q m0 (10 ^ d) false = m0 / 10 ^ d := by
    unfold rd_q
    rw [if_neg (fun w => absurd w.1 (by decide))]
  obtain ⟨u', v', R', gX, gY⟩ := fg_go (fp := fp) (pg := pg) (ob := ob) (hr := nI h) (ix := (ar_l (ar_s s (m0 / 10 ^ d))).toInt32) (sz := sz) (st := st) (kd := kd) (pl := pl) (wd := wd) (tm := tm) (dg := dg) (dc := dc) (ss := ss) (pc := pc) (op := op) (ox := ox) (oy := oy) (oz := oz) (ps := ps) (jp := jp) (oi := oi) (pa := pa) (pt := pt) (sh := sh) (lc := lc) (rc := rc) (dr := dr) (ln := ln) (sn := sn) (sd := sd) (ch := ch) (oth := oth) (lw := lw) (hg := hg) (le := le) (bk := bk) (fm := fm) (vy := vy) (t := t) (c := c) (h := h + 1) hn (show h + 1 ≤ n by omega) hp6 (by omega) ((show c ≤ 12 * (t + 1) by omega)) hsz ok hA Pg hF
  have hcp := cp_p9 b2
  refine Or.inr ⟨u', v', R', fun post hp => ?_, fun post hp => ?_⟩
  · have hset : wpX_setIndex (fun u => match u with | (cn, ck, fp, pg, ob, hr, sp, ix, sz, pf, sc, st, kd, pl, wd, tm, dg, dc, ss, pc, op, ox, oy, oz, ps, jp, oi, pa, pt, sh, lc, rc, dr) => wX_takeStep_344 post (nI (h + 1)) cn ck fp pg ob hr sp ix sz pf sc st kd pl wd tm dg dc ss pc op ox oy oz ps jp oi pa pt sh lc rc dr) (nI n, 1, fp, pg, ob, nI h, nI (t + 1), ix, sz, nI p, nI c, st, kd, pl, wd, tm, dg, dc, ss, pc, op, ox, oy, oz, ps, jp, oi, pa, pt, sh, lc, rc, dr) x z := by
      unfold wpX_setIndex
      refine xo_val ok O ?_
      refine xo_dec O ?_
      rw [g1]
      refine xw_short (r := false) b2 (by omega) ?_
      rw [eq0]
      exact gX post hp
    exact br_t (nI_lt hh (by omega)) (br_t (nI_lt (b := 500) ht (by decide)) (nm_r (nI_1 t) ⟨vh, nm_r eo ⟨vh, nm_r ex ⟨vh, nm_r ey ⟨vh, nm_r ez (xm_tab (o := 20) (by decide) (fun w => absurd w hnb) (fun _ => br_t rfl (nm_r (nI_1 h) (br_f (by decide) (br_f (by decide) (br_f (by decide) (br_f (by decide) (br_f (by decide) (br_f (by decide) (br_f (by decide) (br_f (by decide) (br_f (by decide) (br_f (by decide) (br_f (by decide) (br_f (by decide) (br_f (by decide) (br_f (by decide) (br_f (by decide) (br_f (by decide) (br_f (by decide) (br_f (by decide) (br_f (by decide) (br_f (by decide) (br_f (by decide) (br_t rfl (hset))))))))))))))))))))))))))⟩⟩⟩⟩))
  · obtain ⟨m, hm⟩ := gY post hp
    refine yg_step hn hh hp6 ht Pg hal ⟨m, ym_tab (o := 20) (by omega) (by decide) e1 e2 e3 e4 hxi hyi (fun w => absurd w hnb) (fun _ => br_f (by decide) (br_f (by decide) (br_f (by decide) (yc_182 (by decide) (yc_215 (by decide) (br_f (by decide) (br_f (by decide) (br_f (by decide) (br_f (by decide) ?_)))))))))⟩
    refine br_t rfl ?_
    have fin : ∀ w : Int64, w = ar_l (ar_s s (m0 / 10 ^ d)) → wY_step_386 (fun u => match u with | (cn, fp, ck, pf, hr, sp, ix, sc, ye, sz, yj, st, kd, pl, ln, dc, tm, sn, sd, op, ox, oy, oz, sh, ch, oth, lw, hg, le, bk, fm, vy) => wY_run_49 post m cn fp ck pf hr sp ix sc ye sz yj st kd pl ln dc tm sn sd op ox oy oz sh ch oth lw hg le bk fm vy) 20 x y z w (nI n) fp 1 (nI p) (nI h) (nI (t + 1)) ix (nI c) (-1) sz 0 st kd pl ln dc tm sn sd op ox oy oz sh ch oth lw hg le bk fm vy := by
      intro w ew
      subst ew
      exact br_f (by decide) (br_f (by decide) (nm_r (nI_1 h) hm))
    rcases O with ⟨q0, q1, q2⟩ | ⟨j', K', A', W', T', D', B', S', L', e', hj', q0, R1, hx', q1, q2⟩
    · subst q0 q2
      refine br_t rfl (fin _ ?_)
      rw [Nat.pow_zero, Nat.div_one, ← g1, q1]
      rfl
    · subst q0 q2
      refine br_f (nI_16 hj') (yi_elem hj' R1 hx' (yv_value hj' R1 hx'.1 hx'.2.1 ok ⟨vp_in_nI hj' (by decide), ?_⟩))
      rw [nI_clamp (show j' < 2 ^ 31 by omega), R1.1.2.2.2.2.2.1]
      refine yw_ten (by omega) ⟨ar_n0 (ar_pp _) (by omega), fin _ ?_⟩
      rw [← q1, g1, ar_div (ar_sB (by omega)) (ar_nB (by omega)), ar_td]
end
