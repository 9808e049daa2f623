/-! one step, by its code -/
def sh_H (n h p c t o : Nat) (ix sz yj x y z : Int32) (st kd pl wd tm dg dc ss pc ln sn sd op ox oy oz ps jp pa pt lw hg le bk fm vy : Nat → Int32) : Prop :=
  n ≤ 48 ∧ h < n ∧ p ≤ 6 ∧ t < 500 ∧ c ≤ 12 * t ∧ (sz = 0 ∨ sz = 1) ∧ st_ok st ∧ it_A kd pl wd tm dg dc ss pc ln sn sd ∧ rl_P op ox oy oz kd ps jp n ∧ rn_F op ox oy oz pa pt lw hg le bk fm vy n p ∧ ag_al yj h p hg ps op n ∧
  (op h = nI o ∧ ox h = x ∧ oy h = y ∧ oz h = z) ∧ ft_G kd (tb_z op n) o x y z ∧ ¬ ms_B ix kd tm o x y
theorem fs_i {kd : Nat → Int32} {x s : Int32} (hs : ¬ s = 0) (h : ft_s kd x s) : ft_i kd x := by
  obtain ⟨j, hj, e, w⟩ := h
  exact ⟨j, hj, e, fun z => hs (w.symm.trans z)⟩
theorem fc_i {kd : Nat → Int32} {x : Int32} (h : ft_c kd x) : ft_i kd x := h.elim (fs_i (by decide)) (fs_i (by decide))
theorem fs_K {kd pl wd tm dg dc ss pc ln sn sd : Nat → Int32} {j K A W T D B S L : Nat} {s : Nat} (hj : j < 12) (hs : s ≤ 3) (h : ft_s kd (nI j) (nI s)) (R : it_R kd pl wd tm dg dc ss pc ln sn sd j K A W T D B S L) : K = s := by
  obtain ⟨i, hi, e, w⟩ := h
  have k2 := R.2.1.2.1
  rw [nI_eq (by omega) (by omega)] at e
  subst e
  rw [R.1.1] at w
  exact (nI_eq (by omega) (by omega)).mp w
theorem od_ex {ix : Int32} {st kd pl wd tm dg dc ss pc ln sn sd : Nat → Int32} {x z : Int32} (hA : it_A kd pl wd tm dg dc ss pc ln sn sd) (hx : x = 16 ∨ ft_i kd x) (hm : ¬ ms_P ix kd tm x) : ∃ V d, od_P ix st kd pl wd tm dg dc ss pc ln sn sd x z V d := by
  rcases hx with rfl | hx
  · exact ⟨_, _, Or.inl ⟨rfl, rfl, rfl⟩⟩
  · obtain ⟨j, K, A, W, T, D, B, S, L, e, hj, rfl, R, hX⟩ := ac_ex hA hx hm
    exact ⟨_, _, Or.inr ⟨j, K, A, W, T, D, B, S, L, e, hj, rfl, R, hX, rfl, rfl⟩⟩
section
variable {cn ck fp pg ob hr sp ix sz pf sc ye yj : Int32}
variable {st kd pl wd tm dg dc ss pc op ox oy oz ps jp oi pa pt sh lc rc dr ln sn sd ch oth lw hg le bk fm vy : Nat → Int32}
variable {n h p c t : Nat} {x y z o : Int32}
theorem yc_320 {post : SY → Prop} (h18 : ¬ o = 18) (h19 : ¬ o = 19) (h20 : ¬ o = 20) (h21 : ¬ o = 21) (h22 : ¬ o = 22) (H : post (cn, fp, ck, pf, hr + 1, sp, ix, sc, ye, sz, yj, st, kd, pl, ln, dc, tm, sn, sd, op, ox, oy, oz, sh, ch, oth, lw, hg, le, bk, fm, vy)) : wY_step_320 post o x y z cn fp ck pf hr sp ix sc ye sz yj st kd pl ln dc tm sn sd op ox oy oz sh ch oth lw hg le bk fm vy :=
  br_f h18 (br_f h19 (br_f h20 (br_f h21 (br_f h22 (nm_e H)))))
theorem yc_280 {post : SY → Prop} (h13 : ¬ o = 13) (h17 : ¬ o = 17) (h18 : ¬ o = 18) (h19 : ¬ o = 19) (h20 : ¬ o = 20) (h21 : ¬ o = 21) (h22 : ¬ o = 22) (H : post (cn, fp, ck, pf, hr + 1, sp, ix, sc, ye, sz, yj, st, kd, pl, ln, dc, tm, sn, sd, op, ox, oy, oz, sh, ch, oth, lw, hg, le, bk, fm, vy)) : wY_step_280 post o x y z cn fp ck pf hr sp ix sc ye sz yj st kd pl ln dc tm sn sd op ox oy oz sh ch oth lw hg le bk fm vy :=
  br_f h13 (br_f h17 (yc_320 h18 h19 h20 h21 h22 H))
theorem yc_215 {post : SY → Prop} (hi : ¬ (10 ≤ o ∧ o ≤ 12)) (H : wY_step_280 post o x y z cn fp ck pf hr sp ix sc ye sz yj st kd pl ln dc tm sn sd op ox oy oz sh ch oth lw hg le bk fm vy) : wY_step_215 post o x y z cn fp ck pf hr sp ix sc ye sz yj st kd pl ln dc tm sn sd op ox oy oz sh ch oth lw hg le bk fm vy := by
  unfold wY_step_215
  exact yi_in (fun a b => absurd ⟨a, b⟩ hi) (fun _ => br_t rfl H)
theorem yc_182 {post : SY → Prop} (hi : ¬ (2 ≤ o ∧ o ≤ 9)) (H : wY_step_215 post o x y z cn fp ck pf hr sp ix sc ye sz yj st kd pl ln dc tm sn sd op ox oy oz sh ch oth lw hg le bk fm vy) : wY_step_182 post o x y z cn fp ck pf hr sp ix sc ye sz yj st kd pl ln dc tm sn sd op ox oy oz sh ch oth lw hg le bk fm vy := by
  unfold wY_step_182
  exact yi_in (fun a b => absurd ⟨a, b⟩ hi) (fun _ => br_t rfl H)
theorem so_range {o : Nat} (ho : o ≤ 22) (hn : n ≤ 48) (hh : h < n) (hp6 : p ≤ 6) (ht : t < 500) (hsz : sz = 0 ∨ sz = 1) (ok : st_ok st) (hA : it_A kd pl wd tm dg dc ss pc ln sn sd) (Pg : rl_P op ox oy oz kd ps jp n) (hal : ag_al yj h p hg ps op n)
    (e1 : op h = nI o) (e2 : ox h = x) (e3 : oy h = y) (e4 : oz h = z) (hxi : 1 ≤ ms_c o → x = 16 ∨ ft_i kd x) (hyi : ms_c o = 2 → ft_i kd y) (hb : ms_B ix kd tm o x y) : so_O t (nI n, 1, fp, pg, ob, nI h, nI t, ix, sz, nI p, nI c, st, kd, pl, wd, tm, dg, dc, ss, pc, op, ox, oy, oz, ps, jp, oi, pa, pt, sh, lc, rc, dr) (nI n, fp, 1, nI p, nI h, nI t, ix, nI c, (-1), sz, yj, st, kd, pl, ln, dc, tm, sn, sd, op, ox, oy, oz, sh, ch, oth, lw, hg, le, bk, fm, vy) := by
  have vh : vp_in (nI h) 48 := vp_in_nI (by omega) (by decide)
  have ch1 : (nI h).toNatClampNeg = h := nI_clamp (by omega)
  have eo : op (nI h).toNatClampNeg = nI o := by rw [ch1, e1]
  have ex : ox (nI h).toNatClampNeg = x := by rw [ch1, e2]
  have ey : oy (nI h).toNatClampNeg = y := by rw [ch1, e3]
  have ez : oz (nI h).toNatClampNeg = z := by rw [ch1, e4]
  refine Or.inl ⟨2, (nI n, 1, fp, pg, ob, nI h, nI (t + 1), ix, sz, nI p, nI c, st, kd, pl, wd, tm, dg, dc, ss, pc, op, ox, oy, oz, ps, jp, oi, pa, pt, sh, lc, rc, dr), (nI n, fp, 1, nI p, nI h, nI (t + 1), ix, nI c, 2, sz, 0, st, kd, pl, ln, dc, tm, sn, sd, op, ox, oy, oz, sh, ch, oth, lw, hg, le, bk, fm, vy), by decide, ⟨⟨rfl, rfl, rfl, rfl, rfl, rfl, rfl, rfl, rfl, rfl, rfl, rfl, rfl, rfl, rfl, rfl, rfl⟩, rl_of hn hsz ok hA Pg rfl⟩, fun post hp => ?_, fun post hp => ?_⟩
  · exact br_t (nI_lt hh (by omega)) (br_t (nI_lt (b := 500) ht (by decide)) (nm_r (nI_1 t) ⟨vh, nm_r eo ⟨vh, nm_r ex ⟨vh, nm_r ey ⟨vh, nm_r ez (xm_tab ho (fun _ => br_f (by decide) hp) (fun w => absurd hb w))⟩⟩⟩⟩))
  · exact yg_step hn hh hp6 ht Pg hal ⟨1, ym_tab (by omega) ho e1 e2 e3 e4 hxi hyi (fun _ => br_t (by decide) hp) (fun w => absurd hb w)⟩
theorem so_0 (H : sh_H n h p c t 0 ix sz yj x y z st kd pl wd tm dg dc ss pc ln sn sd op ox oy oz ps jp pa pt lw hg le bk fm vy) : so_O t (nI n, 1, fp, pg, ob, nI h, nI t, ix, sz, nI p, nI c, st, kd, pl, wd, tm, dg, dc, ss, pc, op, ox, oy, oz, ps, jp, oi, pa, pt, sh, lc, rc, dr) (nI n, fp, 1, nI p, nI h, nI t, ix, nI c, (-1), sz, yj, st, kd, pl, ln, dc, tm, sn, sd, op, ox, oy, oz, sh, ch, oth, lw, hg, le, bk, fm, vy) := by
  obtain ⟨hn, hh, hp6, ht, hc, hsz, ok, hA, Pg, hF, hal, ⟨e1, e2, e3, e4⟩, hft, hnb⟩ := H
  have vh : vp_in (nI h) 48 := vp_in_nI (by omega) (by decide)
  have ch1 : (nI h).toNatClampNeg = h := nI_clamp (by omega)
  have eo : op (nI h).toNatClampNeg = nI 0 := by rw [ch1, e1]
  have ex : ox (nI h).toNatClampNeg = x := by rw [ch1, e2]
  have ey : oy (nI h).toNatClampNeg = y := by rw [ch1, e3]
  have ez : oz (nI h).toNatClampNeg = z := by rw [ch1, e4]
  have hxi : 1 ≤ ms_c 0 → x = 16 ∨ ft_i kd x := (fun w => absurd w (by decide))
  have hyi : ms_c 0 = 2 → ft_i kd y := (fun w => absurd w (by decide))
  obtain ⟨u', v', R', gX, gY⟩ := fg_go (fp := fp) (pg := pg) (ob := ob) (hr := nI h) (ix := ix) (sz := sz) (st := st) (kd := kd) (pl := pl) (wd := wd) (tm := tm) (dg := dg) (dc := dc) (ss := ss) (pc := pc) (op := op) (ox := ox) (oy := oy) (oz := oz) (ps := ps) (jp := jp) (oi := oi) (pa := pa) (pt := pt) (sh := sh) (lc := lc) (rc := rc) (dr := dr) (ln := ln) (sn := sn) (sd := sd) (ch := ch) (oth := oth) (lw := lw) (hg := hg) (le := le) (bk := bk) (fm := fm) (vy := vy) (t := t) (c := c) (h := h + 1) hn (show h + 1 ≤ n by omega) hp6 (by omega) ((show c ≤ 12 * (t + 1) by omega)) hsz ok hA Pg hF
  refine Or.inr ⟨u', v', R', fun post hp => ?_, fun post hp => ?_⟩
  · exact br_t (nI_lt hh (by omega)) (br_t (nI_lt (b := 500) ht (by decide)) (nm_r (nI_1 t) ⟨vh, nm_r eo ⟨vh, nm_r ex ⟨vh, nm_r ey ⟨vh, nm_r ez (xm_tab (o := 0) (by decide) (fun w => absurd w hnb) (fun _ => br_t rfl (nm_r (nI_1 h) (br_t (by decide) (br_t (by decide) (gX post hp))))))⟩⟩⟩⟩))
  · obtain ⟨m, hm⟩ := gY post hp
    exact yg_step hn hh hp6 ht Pg hal ⟨m, ym_tab (o := 0) (by omega) (by decide) e1 e2 e3 e4 hxi hyi (fun w => absurd w hnb) (fun _ => br_f (by decide) (br_f (by decide) (br_f (by decide) (yc_182 (by decide) (yc_215 (by decide) (yc_280 (by decide) (by decide) (by decide) (by decide) (by decide) (by decide) (by decide) (by rw [nI_1]; exact hm)))))))⟩
theorem so_14 (H : sh_H n h p c t 14 ix sz yj x y z st kd pl wd tm dg dc ss pc ln sn sd op ox oy oz ps jp pa pt lw hg le bk fm vy) : so_O t (nI n, 1, fp, pg, ob, nI h, nI t, ix, sz, nI p, nI c, st, kd, pl, wd, tm, dg, dc, ss, pc, op, ox, oy, oz, ps, jp, oi, pa, pt, sh, lc, rc, dr) (nI n, fp, 1, nI p, nI h, nI t, ix, nI c, (-1), sz, yj, st, kd, pl, ln, dc, tm, sn, sd, op, ox, oy, oz, sh, ch, oth, lw, hg, le, bk, fm, vy) := by
  obtain ⟨hn, hh, hp6, ht, hc, hsz, ok, hA, Pg, hF, hal, ⟨e1, e2, e3, e4⟩, hft, hnb⟩ := H
  have vh : vp_in (nI h) 48 := vp_in_nI (by omega) (by decide)
  have ch1 : (nI h).toNatClampNeg = h := nI_clamp (by omega)
  have eo : op (nI h).toNatClampNeg = nI 14 := by rw [ch1, e1]
  have ex : ox (nI h).toNatClampNeg = x := by rw [ch1, e2]
  have ey : oy (nI h).toNatClampNeg = y := by rw [ch1, e3]
  have ez : oz (nI h).toNatClampNeg = z := by rw [ch1, e4]
  have hxi : 1 ≤ ms_c 14 → x = 16 ∨ ft_i kd x := (fun w => absurd w (by decide))
  have hyi : ms_c 14 = 2 → ft_i kd y := (fun w => absurd w (by decide))
  obtain ⟨u', v', R', gX, gY⟩ := fg_go (fp := fp) (pg := pg) (ob := ob) (hr := nI h) (ix := ix) (sz := sz) (st := st) (kd := kd) (pl := pl) (wd := wd) (tm := tm) (dg := dg) (dc := dc) (ss := ss) (pc := pc) (op := op) (ox := ox) (oy := oy) (oz := oz) (ps := ps) (jp := jp) (oi := oi) (pa := pa) (pt := pt) (sh := sh) (lc := lc) (rc := rc) (dr := dr) (ln := ln) (sn := sn) (sd := sd) (ch := ch) (oth := oth) (lw := lw) (hg := hg) (le := le) (bk := bk) (fm := fm) (vy := vy) (t := t) (c := c) (h := h + 1) hn (show h + 1 ≤ n by omega) hp6 (by omega) ((show c ≤ 12 * (t + 1) by omega)) hsz ok hA Pg hF
  refine Or.inr ⟨u', v', R', fun post hp => ?_, fun post hp => ?_⟩
  · exact br_t (nI_lt hh (by omega)) (br_t (nI_lt (b := 500) ht (by decide)) (nm_r (nI_1 t) ⟨vh, nm_r eo ⟨vh, nm_r ex ⟨vh, nm_r ey ⟨vh, nm_r ez (xm_tab (o := 14) (by decide) (fun w => absurd w hnb) (fun _ => br_t rfl (nm_r (nI_1 h) (br_f (by decide) (br_f (by decide) (br_f (by decide) (br_f (by decide) (br_f (by decide) (br_f (by decide) (br_f (by decide) (br_f (by decide) (br_f (by decide) (br_f (by decide) (br_f (by decide) (br_f (by decide) (br_f (by decide) (br_f (by decide) (br_f (by decide) (br_t rfl (br_f (by decide) (br_t (by decide) (gX post hp))))))))))))))))))))))⟩⟩⟩⟩))
  · obtain ⟨m, hm⟩ := gY post hp
    exact yg_step hn hh hp6 ht Pg hal ⟨m, ym_tab (o := 14) (by omega) (by decide) e1 e2 e3 e4 hxi hyi (fun w => absurd w hnb) (fun _ => br_f (by decide) (br_f (by decide) (br_f (by decide) (yc_182 (by decide) (yc_215 (by decide) (yc_280 (by decide) (by decide) (by decide) (by decide) (by decide) (by decide) (by decide) (by rw [nI_1]; exact hm)))))))⟩
theorem so_1 (H : sh_H n h p c t 1 ix sz yj x y z st kd pl wd tm dg dc ss pc ln sn sd op ox oy oz ps jp pa pt lw hg le bk fm vy) : so_O t (nI n, 1, fp, pg, ob, nI h, nI t, ix, sz, nI p, nI c, st, kd, pl, wd, tm, dg, dc, ss, pc, op, ox, oy, oz, ps, jp, oi, pa, pt, sh, lc, rc, dr) (nI n, fp, 1, nI p, nI h, nI t, ix, nI c, (-1), sz, yj, st, kd, pl, ln, dc, tm, sn, sd, op, ox, oy, oz, sh, ch, oth, lw, hg, le, bk, fm, vy) := by
  obtain ⟨hn, hh, hp6, ht, hc, hsz, ok, hA, Pg, hF, hal, ⟨e1, e2, e3, e4⟩, hft, hnb⟩ := H
  have vh : vp_in (nI h) 48 := vp_in_nI (by omega) (by decide)
  have ch1 : (nI h).toNatClampNeg = h := nI_clamp (by omega)
  have eo : op (nI h).toNatClampNeg = nI 1 := by rw [ch1, e1]
  have ex : ox (nI h).toNatClampNeg = x := by rw [ch1, e2]
  have ey : oy (nI h).toNatClampNeg = y := by rw [ch1, e3]
  have ez : oz (nI h).toNatClampNeg = z := by rw [ch1, e4]
  obtain ⟨f1, f2⟩ := hft.1 rfl
  have hxi : 1 ≤ ms_c 1 → x = 16 ∨ ft_i kd x := fun _ => f1
  have hyi : ms_c 1 = 2 → ft_i kd y := fun _ => f2
  obtain ⟨V, d, O⟩ := od_ex (st := st) (z := z) hA f1 (fun w => hnb (Or.inl ⟨by decide, w⟩))
  obtain ⟨j, K, A, W, T, D, B, S, L, e, hj, rfl, R, hX⟩ := ac_ex hA f2 (fun w => hnb (Or.inr ⟨rfl, w⟩))
  obtain ⟨st', lc', dr', ch', oth', ok', mX, mY⟩ := mv_all (cn := nI n) (ck := 1) (fp := fp) (pg := pg) (ob := ob) (hr := nI h) (sp := nI (t + 1)) (ix := ix) (sz := sz) (pf := nI p) (sc := nI c) (ye := -1) (yj := 0) (st := st) (kd := kd) (pl := pl) (wd := wd) (tm := tm) (dg := dg) (dc := dc) (ss := ss) (pc := pc) (op := op) (ox := ox) (oy := oy) (oz := oz) (ps := ps) (jp := jp) (oi := oi) (pa := pa) (pt := pt) (sh := sh) (lc := lc) (rc := rc) (dr := dr) (ln := ln) (sn := sn) (sd := sd) (ch := ch) (oth := oth) (lw := lw) (hg := hg) (le := le) (bk := bk) (fm := fm) (vy := vy) ok O hj R hX
  obtain ⟨u', v', R', gX, gY⟩ := fg_go (fp := fp) (pg := pg) (ob := ob) (hr := nI h) (ix := ix) (sz := sz) (st := st') (kd := kd) (pl := pl) (wd := wd) (tm := tm) (dg := dg) (dc := dc) (ss := ss) (pc := pc) (op := op) (ox := ox) (oy := oy) (oz := oz) (ps := ps) (jp := jp) (oi := oi) (pa := pa) (pt := pt) (sh := sh) (lc := lc') (rc := rc) (dr := dr') (ln := ln) (sn := sn) (sd := sd) (ch := ch') (oth := oth') (lw := lw) (hg := hg) (le := le) (bk := bk) (fm := fm) (vy := vy) (t := t) (c := c) (h := h + 1) hn (show h + 1 ≤ n by omega) hp6 (by omega) ((show c ≤ 12 * (t + 1) by omega)) hsz ok' hA Pg hF
  refine Or.inr ⟨u', v', R', fun post hp => ?_, fun post hp => ?_⟩
  · exact br_t (nI_lt hh (by omega)) (br_t (nI_lt (b := 500) ht (by decide)) (nm_r (nI_1 t) ⟨vh, nm_r eo ⟨vh, nm_r ex ⟨vh, nm_r ey ⟨vh, nm_r ez (xm_tab (o := 1) (by decide) (fun w => absurd w hnb) (fun _ => br_t rfl (nm_r (nI_1 h) (br_f (by decide) (br_f (by decide) (br_t rfl (mX _ (gX post hp))))))))⟩⟩⟩⟩))
  · obtain ⟨m, hm⟩ := gY post hp
    exact yg_step hn hh hp6 ht Pg hal ⟨m, ym_tab (o := 1) (by omega) (by decide) e1 e2 e3 e4 hxi hyi (fun w => absurd w hnb) (fun _ => br_f (by decide) (br_f (by decide) (br_t rfl (mY _ (yc_182 (by decide) (yc_215 (by decide) (yc_280 (by decide) (by decide) (by decide) (by decide) (by decide) (by decide) (by decide) (by rw [nI_1]; exact hm))))))))⟩
theorem so_2 (H : sh_H n h p c t 2 ix sz yj x y z st kd pl wd tm dg dc ss pc ln sn sd op ox oy oz ps jp pa pt lw hg le bk fm vy) : so_O t (nI n, 1, fp, pg, ob, nI h, nI t, ix, sz, nI p, nI c, st, kd, pl, wd, tm, dg, dc, ss, pc, op, ox, oy, oz, ps, jp, oi, pa, pt, sh, lc, rc, dr) (nI n, fp, 1, nI p, nI h, nI t, ix, nI c, (-1), sz, yj, st, kd, pl, ln, dc, tm, sn, sd, op, ox, oy, oz, sh, ch, oth, lw, hg, le, bk, fm, vy) := by
  obtain ⟨hn, hh, hp6, ht, hc, hsz, ok, hA, Pg, hF, hal, ⟨e1, e2, e3, e4⟩, hft, hnb⟩ := H
  have vh : vp_in (nI h) 48 := vp_in_nI (by omega) (by decide)
  have ch1 : (nI h).toNatClampNeg = h := nI_clamp (by omega)
  have eo : op (nI h).toNatClampNeg = nI 2 := by rw [ch1, e1]
  have ex : ox (nI h).toNatClampNeg = x := by rw [ch1, e2]
  have ey : oy (nI h).toNatClampNeg = y := by rw [ch1, e3]
  have ez : oz (nI h).toNatClampNeg = z := by rw [ch1, e4]
  obtain ⟨f1, f2⟩ := hft.2.1 (by decide) (by decide)
  have f3 := fs_i (by decide) f2
  have f0 : x = 16 ∨ ft_i kd x := f1.imp id (fs_i (by decide))
  have hxi : 1 ≤ ms_c 2 → x = 16 ∨ ft_i kd x := fun _ => f0
  have hyi : ms_c 2 = 2 → ft_i kd y := fun _ => f3
  obtain ⟨V, d, O⟩ := od_ex (st := st) (z := z) hA f0 (fun w => hnb (Or.inl ⟨by decide, w⟩))
  obtain ⟨j, K, A, W, T, D, B, S, L, e, hj, rfl, R, hX⟩ := ac_ex hA f3 (fun w => hnb (Or.inr ⟨rfl, w⟩))
  obtain ⟨st', dr', oth', sz', ok', hsz', mX, mY⟩ := cq_2 (cn := nI n) (ck := 1) (fp := fp) (pg := pg) (ob := ob) (hr := nI h) (sp := nI (t + 1)) (ix := ix) (sz := sz) (pf := nI p) (sc := nI c) (ye := -1) (yj := 0) (st := st) (kd := kd) (pl := pl) (wd := wd) (tm := tm) (dg := dg) (dc := dc) (ss := ss) (pc := pc) (op := op) (ox := ox) (oy := oy) (oz := oz) (ps := ps) (jp := jp) (oi := oi) (pa := pa) (pt := pt) (sh := sh) (lc := lc) (rc := rc) (dr := dr) (ln := ln) (sn := sn) (sd := sd) (ch := ch) (oth := oth) (lw := lw) (hg := hg) (le := le) (bk := bk) (fm := fm) (vy := vy) ok O hj R hX (fs_K (s := 1) hj (by omega) f2 R)
  obtain ⟨u', v', R', gX, gY⟩ := fg_go (fp := fp) (pg := pg) (ob := ob) (hr := nI h) (ix := ix) (sz := sz') (st := st') (kd := kd) (pl := pl) (wd := wd) (tm := tm) (dg := dg) (dc := dc) (ss := ss) (pc := pc) (op := op) (ox := ox) (oy := oy) (oz := oz) (ps := ps) (jp := jp) (oi := oi) (pa := pa) (pt := pt) (sh := sh) (lc := lc) (rc := rc) (dr := dr') (ln := ln) (sn := sn) (sd := sd) (ch := ch) (oth := oth') (lw := lw) (hg := hg) (le := le) (bk := bk) (fm := fm) (vy := vy) (t := t) (c := c) (h := h + 1) hn (show h + 1 ≤ n by omega) hp6 (by omega) ((show c ≤ 12 * (t + 1) by omega)) hsz' ok' hA Pg hF
  refine Or.inr ⟨u', v', R', fun post hp => ?_, fun post hp => ?_⟩
  · exact br_t (nI_lt hh (by omega)) (br_t (nI_lt (b := 500) ht (by decide)) (nm_r (nI_1 t) ⟨vh, nm_r eo ⟨vh, nm_r ex ⟨vh, nm_r ey ⟨vh, nm_r ez (xm_tab (o := 2) (by decide) (fun w => absurd w hnb) (fun _ => br_t rfl (nm_r (nI_1 h) (br_f (by decide) (br_f (by decide) (br_f (by decide) (br_t rfl (br_f (by decide) (br_f (by decide) (mX _ (gX post hp)))))))))))⟩⟩⟩⟩))
  · obtain ⟨m, hm⟩ := gY post hp
    exact yg_step hn hh hp6 ht Pg hal ⟨m, ym_tab (o := 2) (by omega) (by decide) e1 e2 e3 e4 hxi hyi (fun w => absurd w hnb) (fun _ => by
      refine br_f (by decide) (br_f (by decide) (br_f (by decide) ?_))
      unfold wY_step_182
      refine yi_in (fun _ _ => br_f (by decide) ⟨by decide, ?_⟩) (fun w => absurd ⟨by decide, by decide⟩ w)
      rw [show ((nI 2 - 2) - (nI 2 - 2) / 4 * 4 : Int32) = 0 from by decide]
      exact br_t (by decide) (mY _ (yc_215 (by decide) (yc_280 (by decide) (by decide) (by decide) (by decide) (by decide) (by decide) (by decide) (by rw [nI_1]; exact hm)))))⟩
theorem so_3 (H : sh_H n h p c t 3 ix sz yj x y z st kd pl wd tm dg dc ss pc ln sn sd op ox oy oz ps jp pa pt lw hg le bk fm vy) : so_O t (nI n, 1, fp, pg, ob, nI h, nI t, ix, sz, nI p, nI c, st, kd, pl, wd, tm, dg, dc, ss, pc, op, ox, oy, oz, ps, jp, oi, pa, pt, sh, lc, rc, dr) (nI n, fp, 1, nI p, nI h, nI t, ix, nI c, (-1), sz, yj, st, kd, pl, ln, dc, tm, sn, sd, op, ox, oy, oz, sh, ch, oth, lw, hg, le, bk, fm, vy) := by
  obtain ⟨hn, hh, hp6, ht, hc, hsz, ok, hA, Pg, hF, hal, ⟨e1, e2, e3, e4⟩, hft, hnb⟩ := H
  have vh : vp_in (nI h) 48 := vp_in_nI (by omega) (by decide)
  have ch1 : (nI h).toNatClampNeg = h := nI_clamp (by omega)
  have eo : op (nI h).toNatClampNeg = nI 3 := by rw [ch1, e1]
  have ex : ox (nI h).toNatClampNeg = x := by rw [ch1, e2]
  have ey : oy (nI h).toNatClampNeg = y := by rw [ch1, e3]
  have ez : oz (nI h).toNatClampNeg = z := by rw [ch1, e4]
  obtain ⟨f1, f2⟩ := hft.2.1 (by decide) (by decide)
  have f3 := fs_i (by decide) f2
  have f0 : x = 16 ∨ ft_i kd x := f1.imp id (fs_i (by decide))
  have hxi : 1 ≤ ms_c 3 → x = 16 ∨ ft_i kd x := fun _ => f0
  have hyi : ms_c 3 = 2 → ft_i kd y := fun _ => f3
  obtain ⟨V, d, O⟩ := od_ex (st := st) (z := z) hA f0 (fun w => hnb (Or.inl ⟨by decide, w⟩))
  obtain ⟨j, K, A, W, T, D, B, S, L, e, hj, rfl, R, hX⟩ := ac_ex hA f3 (fun w => hnb (Or.inr ⟨rfl, w⟩))
  obtain ⟨st', dr', oth', sz', ok', hsz', mX, mY⟩ := cq_3 (cn := nI n) (ck := 1) (fp := fp) (pg := pg) (ob := ob) (hr := nI h) (sp := nI (t + 1)) (ix := ix) (sz := sz) (pf := nI p) (sc := nI c) (ye := -1) (yj := 0) (st := st) (kd := kd) (pl := pl) (wd := wd) (tm := tm) (dg := dg) (dc := dc) (ss := ss) (pc := pc) (op := op) (ox := ox) (oy := oy) (oz := oz) (ps := ps) (jp := jp) (oi := oi) (pa := pa) (pt := pt) (sh := sh) (lc := lc) (rc := rc) (dr := dr) (ln := ln) (sn := sn) (sd := sd) (ch := ch) (oth := oth) (lw := lw) (hg := hg) (le := le) (bk := bk) (fm := fm) (vy := vy) ok O hj R hX (fs_K (s := 1) hj (by omega) f2 R)
  obtain ⟨u', v', R', gX, gY⟩ := fg_go (fp := fp) (pg := pg) (ob := ob) (hr := nI h) (ix := ix) (sz := sz') (st := st') (kd := kd) (pl := pl) (wd := wd) (tm := tm) (dg := dg) (dc := dc) (ss := ss) (pc := pc) (op := op) (ox := ox) (oy := oy) (oz := oz) (ps := ps) (jp := jp) (oi := oi) (pa := pa) (pt := pt) (sh := sh) (lc := lc) (rc := rc) (dr := dr') (ln := ln) (sn := sn) (sd := sd) (ch := ch) (oth := oth') (lw := lw) (hg := hg) (le := le) (bk := bk) (fm := fm) (vy := vy) (t := t) (c := c) (h := h + 1) hn (show h + 1 ≤ n by omega) hp6 (by omega) ((show c ≤ 12 * (t + 1) by omega)) hsz' ok' hA Pg hF
  refine Or.inr ⟨u', v', R', fun post hp => ?_, fun post hp => ?_⟩
  · exact br_t (nI_lt hh (by omega)) (br_t (nI_lt (b := 500) ht (by decide)) (nm_r (nI_1 t) ⟨vh, nm_r eo ⟨vh, nm_r ex ⟨vh, nm_r ey ⟨vh, nm_r ez (xm_tab (o := 3) (by decide) (fun w => absurd w hnb) (fun _ => br_t rfl (nm_r (nI_1 h) (br_f (by decide) (br_f (by decide) (br_f (by decide) (br_f (by decide) (br_t rfl (br_f (by decide) (br_f (by decide) (mX _ (gX post hp))))))))))))⟩⟩⟩⟩))
  · obtain ⟨m, hm⟩ := gY post hp
    exact yg_step hn hh hp6 ht Pg hal ⟨m, ym_tab (o := 3) (by omega) (by decide) e1 e2 e3 e4 hxi hyi (fun w => absurd w hnb) (fun _ => by
      refine br_f (by decide) (br_f (by decide) (br_f (by decide) ?_))
      unfold wY_step_182
      refine yi_in (fun _ _ => br_f (by decide) ⟨by decide, ?_⟩) (fun w => absurd ⟨by decide, by decide⟩ w)
      rw [show ((nI 3 - 2) - (nI 3 - 2) / 4 * 4 : Int32) = 1 from by decide]
      exact br_t (by decide) (mY _ (yc_215 (by decide) (yc_280 (by decide) (by decide) (by decide) (by decide) (by decide) (by decide) (by decide) (by rw [nI_1]; exact hm)))))⟩
theorem so_4 (H : sh_H n h p c t 4 ix sz yj x y z st kd pl wd tm dg dc ss pc ln sn sd op ox oy oz ps jp pa pt lw hg le bk fm vy) : so_O t (nI n, 1, fp, pg, ob, nI h, nI t, ix, sz, nI p, nI c, st, kd, pl, wd, tm, dg, dc, ss, pc, op, ox, oy, oz, ps, jp, oi, pa, pt, sh, lc, rc, dr) (nI n, fp, 1, nI p, nI h, nI t, ix, nI c, (-1), sz, yj, st, kd, pl, ln, dc, tm, sn, sd, op, ox, oy, oz, sh, ch, oth, lw, hg, le, bk, fm, vy) := by
  obtain ⟨hn, hh, hp6, ht, hc, hsz, ok, hA, Pg, hF, hal, ⟨e1, e2, e3, e4⟩, hft, hnb⟩ := H
  have vh : vp_in (nI h) 48 := vp_in_nI (by omega) (by decide)
  have ch1 : (nI h).toNatClampNeg = h := nI_clamp (by omega)
  have eo : op (nI h).toNatClampNeg = nI 4 := by rw [ch1, e1]
  have ex : ox (nI h).toNatClampNeg = x := by rw [ch1, e2]
  have ey : oy (nI h).toNatClampNeg = y := by rw [ch1, e3]
  have ez : oz (nI h).toNatClampNeg = z := by rw [ch1, e4]
  obtain ⟨f1, f2⟩ := hft.2.1 (by decide) (by decide)
  have f3 := fs_i (by decide) f2
  have f0 : x = 16 ∨ ft_i kd x := f1.imp id (fs_i (by decide))
  have hxi : 1 ≤ ms_c 4 → x = 16 ∨ ft_i kd x := fun _ => f0
  have hyi : ms_c 4 = 2 → ft_i kd y := fun _ => f3
  obtain ⟨V, d, O⟩ := od_ex (st := st) (z := z) hA f0 (fun w => hnb (Or.inl ⟨by decide, w⟩))
  obtain ⟨j, K, A, W, T, D, B, S, L, e, hj, rfl, R, hX⟩ := ac_ex hA f3 (fun w => hnb (Or.inr ⟨rfl, w⟩))
  obtain ⟨st', dr', oth', sz', ok', hsz', mX, mY⟩ := cq_4 (cn := nI n) (ck := 1) (fp := fp) (pg := pg) (ob := ob) (hr := nI h) (sp := nI (t + 1)) (ix := ix) (sz := sz) (pf := nI p) (sc := nI c) (ye := -1) (yj := 0) (st := st) (kd := kd) (pl := pl) (wd := wd) (tm := tm) (dg := dg) (dc := dc) (ss := ss) (pc := pc) (op := op) (ox := ox) (oy := oy) (oz := oz) (ps := ps) (jp := jp) (oi := oi) (pa := pa) (pt := pt) (sh := sh) (lc := lc) (rc := rc) (dr := dr) (ln := ln) (sn := sn) (sd := sd) (ch := ch) (oth := oth) (lw := lw) (hg := hg) (le := le) (bk := bk) (fm := fm) (vy := vy) ok O hj R hX (fs_K (s := 1) hj (by omega) f2 R)
  obtain ⟨u', v', R', gX, gY⟩ := fg_go (fp := fp) (pg := pg) (ob := ob) (hr := nI h) (ix := ix) (sz := sz') (st := st') (kd := kd) (pl := pl) (wd := wd) (tm := tm) (dg := dg) (dc := dc) (ss := ss) (pc := pc) (op := op) (ox := ox) (oy := oy) (oz := oz) (ps := ps) (jp := jp) (oi := oi) (pa := pa) (pt := pt) (sh := sh) (lc := lc) (rc := rc) (dr := dr') (ln := ln) (sn := sn) (sd := sd) (ch := ch) (oth := oth') (lw := lw) (hg := hg) (le := le) (bk := bk) (fm := fm) (vy := vy) (t := t) (c := c) (h := h + 1) hn (show h + 1 ≤ n by omega) hp6 (by omega) ((show c ≤ 12 * (t + 1) by omega)) hsz' ok' hA Pg hF
  refine Or.inr ⟨u', v', R', fun post hp => ?_, fun post hp => ?_⟩
  · exact br_t (nI_lt hh (by omega)) (br_t (nI_lt (b := 500) ht (by decide)) (nm_r (nI_1 t) ⟨vh, nm_r eo ⟨vh, nm_r ex ⟨vh, nm_r ey ⟨vh, nm_r ez (xm_tab (o := 4) (by decide) (fun w => absurd w hnb) (fun _ => br_t rfl (nm_r (nI_1 h) (br_f (by decide) (br_f (by decide) (br_f (by decide) (br_f (by decide) (br_f (by decide) (br_t rfl (br_f (by decide) (br_f (by decide) (mX _ (gX post hp)))))))))))))⟩⟩⟩⟩))
  · obtain ⟨m, hm⟩ := gY post hp
    exact yg_step hn hh hp6 ht Pg hal ⟨m, ym_tab (o := 4) (by omega) (by decide) e1 e2 e3 e4 hxi hyi (fun w => absurd w hnb) (fun _ => by
      refine br_f (by decide) (br_f (by decide) (br_f (by decide) ?_))
      unfold wY_step_182
      refine yi_in (fun _ _ => br_f (by decide) ⟨by decide, ?_⟩) (fun w => absurd ⟨by decide, by decide⟩ w)
      rw [show ((nI 4 - 2) - (nI 4 - 2) / 4 * 4 : Int32) = 2 from by decide]
      exact br_t (by decide) (mY _ (yc_215 (by decide) (yc_280 (by decide) (by decide) (by decide) (by decide) (by decide) (by decide) (by decide) (by rw [nI_1]; exact hm)))))⟩
theorem so_5 (H : sh_H n h p c t 5 ix sz yj x y z st kd pl wd tm dg dc ss pc ln sn sd op ox oy oz ps jp pa pt lw hg le bk fm vy) : so_O t (nI n, 1, fp, pg, ob, nI h, nI t, ix, sz, nI p, nI c, st, kd, pl, wd, tm, dg, dc, ss, pc, op, ox, oy, oz, ps, jp, oi, pa, pt, sh, lc, rc, dr) (nI n, fp, 1, nI p, nI h, nI t, ix, nI c, (-1), sz, yj, st, kd, pl, ln, dc, tm, sn, sd, op, ox, oy, oz, sh, ch, oth, lw, hg, le, bk, fm, vy) := by
  obtain ⟨hn, hh, hp6, ht, hc, hsz, ok, hA, Pg, hF, hal, ⟨e1, e2, e3, e4⟩, hft, hnb⟩ := H
  have vh : vp_in (nI h) 48 := vp_in_nI (by omega) (by decide)
  have ch1 : (nI h).toNatClampNeg = h := nI_clamp (by omega)
  have eo : op (nI h).toNatClampNeg = nI 5 := by rw [ch1, e1]
  have ex : ox (nI h).toNatClampNeg = x := by rw [ch1, e2]
  have ey : oy (nI h).toNatClampNeg = y := by rw [ch1, e3]
  have ez : oz (nI h).toNatClampNeg = z := by rw [ch1, e4]
  obtain ⟨f1, f2⟩ := hft.2.1 (by decide) (by decide)
  have f3 := fs_i (by decide) f2
  have f0 : x = 16 ∨ ft_i kd x := f1.imp id (fs_i (by decide))
  have hxi : 1 ≤ ms_c 5 → x = 16 ∨ ft_i kd x := fun _ => f0
  have hyi : ms_c 5 = 2 → ft_i kd y := fun _ => f3
  obtain ⟨V, d, O⟩ := od_ex (st := st) (z := z) hA f0 (fun w => hnb (Or.inl ⟨by decide, w⟩))
  obtain ⟨j, K, A, W, T, D, B, S, L, e, hj, rfl, R, hX⟩ := ac_ex hA f3 (fun w => hnb (Or.inr ⟨rfl, w⟩))
  obtain ⟨st', dr', oth', sz', ok', hsz', mX, mY⟩ := cq_5 (cn := nI n) (ck := 1) (fp := fp) (pg := pg) (ob := ob) (hr := nI h) (sp := nI (t + 1)) (ix := ix) (sz := sz) (pf := nI p) (sc := nI c) (ye := -1) (yj := 0) (st := st) (kd := kd) (pl := pl) (wd := wd) (tm := tm) (dg := dg) (dc := dc) (ss := ss) (pc := pc) (op := op) (ox := ox) (oy := oy) (oz := oz) (ps := ps) (jp := jp) (oi := oi) (pa := pa) (pt := pt) (sh := sh) (lc := lc) (rc := rc) (dr := dr) (ln := ln) (sn := sn) (sd := sd) (ch := ch) (oth := oth) (lw := lw) (hg := hg) (le := le) (bk := bk) (fm := fm) (vy := vy) ok O hj R hX (fs_K (s := 1) hj (by omega) f2 R)
  obtain ⟨u', v', R', gX, gY⟩ := fg_go (fp := fp) (pg := pg) (ob := ob) (hr := nI h) (ix := ix) (sz := sz') (st := st') (kd := kd) (pl := pl) (wd := wd) (tm := tm) (dg := dg) (dc := dc) (ss := ss) (pc := pc) (op := op) (ox := ox) (oy := oy) (oz := oz) (ps := ps) (jp := jp) (oi := oi) (pa := pa) (pt := pt) (sh := sh) (lc := lc) (rc := rc) (dr := dr') (ln := ln) (sn := sn) (sd := sd) (ch := ch) (oth := oth') (lw := lw) (hg := hg) (le := le) (bk := bk) (fm := fm) (vy := vy) (t := t) (c := c) (h := h + 1) hn (show h + 1 ≤ n by omega) hp6 (by omega) ((show c ≤ 12 * (t + 1) by omega)) hsz' ok' hA Pg hF
  refine Or.inr ⟨u', v', R', fun post hp => ?_, fun post hp => ?_⟩
  · exact br_t (nI_lt hh (by omega)) (br_t (nI_lt (b := 500) ht (by decide)) (nm_r (nI_1 t) ⟨vh, nm_r eo ⟨vh, nm_r ex ⟨vh, nm_r ey ⟨vh, nm_r ez (xm_tab (o := 5) (by decide) (fun w => absurd w hnb) (fun _ => br_t rfl (nm_r (nI_1 h) (br_f (by decide) (br_f (by decide) (br_f (by decide) (br_f (by decide) (br_f (by decide) (br_f (by decide) (br_t rfl (br_f (by decide) (br_f (by decide) (mX _ (gX post hp))))))))))))))⟩⟩⟩⟩))
  · obtain ⟨m, hm⟩ := gY post hp
    exact yg_step hn hh hp6 ht Pg hal ⟨m, ym_tab (o := 5) (by omega) (by decide) e1 e2 e3 e4 hxi hyi (fun w => absurd w hnb) (fun _ => by
      refine br_f (by decide) (br_f (by decide) (br_f (by decide) ?_))
      unfold wY_step_182
      refine yi_in (fun _ _ => br_f (by decide) ⟨by decide, ?_⟩) (fun w => absurd ⟨by decide, by decide⟩ w)
      rw [show ((nI 5 - 2) - (nI 5 - 2) / 4 * 4 : Int32) = 3 from by decide]
      exact br_t (by decide) (mY _ (yc_215 (by decide) (yc_280 (by decide) (by decide) (by decide) (by decide) (by decide) (by decide) (by decide) (by rw [nI_1]; exact hm)))))⟩
theorem so_6 (H : sh_H n h p c t 6 ix sz yj x y z st kd pl wd tm dg dc ss pc ln sn sd op ox oy oz ps jp pa pt lw hg le bk fm vy) : so_O t (nI n, 1, fp, pg, ob, nI h, nI t, ix, sz, nI p, nI c, st, kd, pl, wd, tm, dg, dc, ss, pc, op, ox, oy, oz, ps, jp, oi, pa, pt, sh, lc, rc, dr) (nI n, fp, 1, nI p, nI h, nI t, ix, nI c, (-1), sz, yj, st, kd, pl, ln, dc, tm, sn, sd, op, ox, oy, oz, sh, ch, oth, lw, hg, le, bk, fm, vy) := by
  obtain ⟨hn, hh, hp6, ht, hc, hsz, ok, hA, Pg, hF, hal, ⟨e1, e2, e3, e4⟩, hft, hnb⟩ := H
  have vh : vp_in (nI h) 48 := vp_in_nI (by omega) (by decide)
  have ch1 : (nI h).toNatClampNeg = h := nI_clamp (by omega)
  have eo : op (nI h).toNatClampNeg = nI 6 := by rw [ch1, e1]
  have ex : ox (nI h).toNatClampNeg = x := by rw [ch1, e2]
  have ey : oy (nI h).toNatClampNeg = y := by rw [ch1, e3]
  have ez : oz (nI h).toNatClampNeg = z := by rw [ch1, e4]
  obtain ⟨f1, f2⟩ := hft.2.1 (by decide) (by decide)
  have f3 := fs_i (by decide) f2
  have f0 : x = 16 ∨ ft_i kd x := f1.imp id (fs_i (by decide))
  have hxi : 1 ≤ ms_c 6 → x = 16 ∨ ft_i kd x := fun _ => f0
  have hyi : ms_c 6 = 2 → ft_i kd y := fun _ => f3
  obtain ⟨V, d, O⟩ := od_ex (st := st) (z := z) hA f0 (fun w => hnb (Or.inl ⟨by decide, w⟩))
  obtain ⟨j, K, A, W, T, D, B, S, L, e, hj, rfl, R, hX⟩ := ac_ex hA f3 (fun w => hnb (Or.inr ⟨rfl, w⟩))
  obtain ⟨st', dr', oth', sz', ok', hsz', mX, mY⟩ := cq_6 (cn := nI n) (ck := 1) (fp := fp) (pg := pg) (ob := ob) (hr := nI h) (sp := nI (t + 1)) (ix := ix) (sz := sz) (pf := nI p) (sc := nI c) (ye := -1) (yj := 0) (st := st) (kd := kd) (pl := pl) (wd := wd) (tm := tm) (dg := dg) (dc := dc) (ss := ss) (pc := pc) (op := op) (ox := ox) (oy := oy) (oz := oz) (ps := ps) (jp := jp) (oi := oi) (pa := pa) (pt := pt) (sh := sh) (lc := lc) (rc := rc) (dr := dr) (ln := ln) (sn := sn) (sd := sd) (ch := ch) (oth := oth) (lw := lw) (hg := hg) (le := le) (bk := bk) (fm := fm) (vy := vy) ok O hj R hX (fs_K (s := 1) hj (by omega) f2 R)
  obtain ⟨u', v', R', gX, gY⟩ := fg_go (fp := fp) (pg := pg) (ob := ob) (hr := nI h) (ix := ix) (sz := sz') (st := st') (kd := kd) (pl := pl) (wd := wd) (tm := tm) (dg := dg) (dc := dc) (ss := ss) (pc := pc) (op := op) (ox := ox) (oy := oy) (oz := oz) (ps := ps) (jp := jp) (oi := oi) (pa := pa) (pt := pt) (sh := sh) (lc := lc) (rc := rc) (dr := dr') (ln := ln) (sn := sn) (sd := sd) (ch := ch) (oth := oth') (lw := lw) (hg := hg) (le := le) (bk := bk) (fm := fm) (vy := vy) (t := t) (c := c) (h := h + 1) hn (show h + 1 ≤ n by omega) hp6 (by omega) ((show c ≤ 12 * (t + 1) by omega)) hsz' ok' hA Pg hF
  refine Or.inr ⟨u', v', R', fun post hp => ?_, fun post hp => ?_⟩
  · exact br_t (nI_lt hh (by omega)) (br_t (nI_lt (b := 500) ht (by decide)) (nm_r (nI_1 t) ⟨vh, nm_r eo ⟨vh, nm_r ex ⟨vh, nm_r ey ⟨vh, nm_r ez (xm_tab (o := 6) (by decide) (fun w => absurd w hnb) (fun _ => br_t rfl (nm_r (nI_1 h) (br_f (by decide) (br_f (by decide) (br_f (by decide) (br_f (by decide) (br_f (by decide) (br_f (by decide) (br_f (by decide) (br_t rfl (br_f (by decide) (br_f (by decide) (mX _ (gX post hp)))))))))))))))⟩⟩⟩⟩))
  · obtain ⟨m, hm⟩ := gY post hp
    exact yg_step hn hh hp6 ht Pg hal ⟨m, ym_tab (o := 6) (by omega) (by decide) e1 e2 e3 e4 hxi hyi (fun w => absurd w hnb) (fun _ => by
      refine br_f (by decide) (br_f (by decide) (br_f (by decide) ?_))
      unfold wY_step_182
      refine yi_in (fun _ _ => br_f (by decide) ⟨by decide, ?_⟩) (fun w => absurd ⟨by decide, by decide⟩ w)
      rw [show ((nI 6 - 2) - (nI 6 - 2) / 4 * 4 : Int32) = 0 from by decide]
      exact br_f (by decide) (mY _ (yc_215 (by decide) (yc_280 (by decide) (by decide) (by decide) (by decide) (by decide) (by decide) (by decide) (by rw [nI_1]; exact hm)))))⟩
theorem so_7 (H : sh_H n h p c t 7 ix sz yj x y z st kd pl wd tm dg dc ss pc ln sn sd op ox oy oz ps jp pa pt lw hg le bk fm vy) : so_O t (nI n, 1, fp, pg, ob, nI h, nI t, ix, sz, nI p, nI c, st, kd, pl, wd, tm, dg, dc, ss, pc, op, ox, oy, oz, ps, jp, oi, pa, pt, sh, lc, rc, dr) (nI n, fp, 1, nI p, nI h, nI t, ix, nI c, (-1), sz, yj, st, kd, pl, ln, dc, tm, sn, sd, op, ox, oy, oz, sh, ch, oth, lw, hg, le, bk, fm, vy) := by
  obtain ⟨hn, hh, hp6, ht, hc, hsz, ok, hA, Pg, hF, hal, ⟨e1, e2, e3, e4⟩, hft, hnb⟩ := H
  have vh : vp_in (nI h) 48 := vp_in_nI (by omega) (by decide)
  have ch1 : (nI h).toNatClampNeg = h := nI_clamp (by omega)
  have eo : op (nI h).toNatClampNeg = nI 7 := by rw [ch1, e1]
  have ex : ox (nI h).toNatClampNeg = x := by rw [ch1, e2]
  have ey : oy (nI h).toNatClampNeg = y := by rw [ch1, e3]
  have ez : oz (nI h).toNatClampNeg = z := by rw [ch1, e4]
  obtain ⟨f1, f2⟩ := hft.2.1 (by decide) (by decide)
  have f3 := fs_i (by decide) f2
  have f0 : x = 16 ∨ ft_i kd x := f1.imp id (fs_i (by decide))
  have hxi : 1 ≤ ms_c 7 → x = 16 ∨ ft_i kd x := fun _ => f0
  have hyi : ms_c 7 = 2 → ft_i kd y := fun _ => f3
  obtain ⟨V, d, O⟩ := od_ex (st := st) (z := z) hA f0 (fun w => hnb (Or.inl ⟨by decide, w⟩))
  obtain ⟨j, K, A, W, T, D, B, S, L, e, hj, rfl, R, hX⟩ := ac_ex hA f3 (fun w => hnb (Or.inr ⟨rfl, w⟩))
  obtain ⟨st', dr', oth', sz', ok', hsz', mX, mY⟩ := cq_7 (cn := nI n) (ck := 1) (fp := fp) (pg := pg) (ob := ob) (hr := nI h) (sp := nI (t + 1)) (ix := ix) (sz := sz) (pf := nI p) (sc := nI c) (ye := -1) (yj := 0) (st := st) (kd := kd) (pl := pl) (wd := wd) (tm := tm) (dg := dg) (dc := dc) (ss := ss) (pc := pc) (op := op) (ox := ox) (oy := oy) (oz := oz) (ps := ps) (jp := jp) (oi := oi) (pa := pa) (pt := pt) (sh := sh) (lc := lc) (rc := rc) (dr := dr) (ln := ln) (sn := sn) (sd := sd) (ch := ch) (oth := oth) (lw := lw) (hg := hg) (le := le) (bk := bk) (fm := fm) (vy := vy) ok O hj R hX (fs_K (s := 1) hj (by omega) f2 R)
  obtain ⟨u', v', R', gX, gY⟩ := fg_go (fp := fp) (pg := pg) (ob := ob) (hr := nI h) (ix := ix) (sz := sz') (st := st') (kd := kd) (pl := pl) (wd := wd) (tm := tm) (dg := dg) (dc := dc) (ss := ss) (pc := pc) (op := op) (ox := ox) (oy := oy) (oz := oz) (ps := ps) (jp := jp) (oi := oi) (pa := pa) (pt := pt) (sh := sh) (lc := lc) (rc := rc) (dr := dr') (ln := ln) (sn := sn) (sd := sd) (ch := ch) (oth := oth') (lw := lw) (hg := hg) (le := le) (bk := bk) (fm := fm) (vy := vy) (t := t) (c := c) (h := h + 1) hn (show h + 1 ≤ n by omega) hp6 (by omega) ((show c ≤ 12 * (t + 1) by omega)) hsz' ok' hA Pg hF
  refine Or.inr ⟨u', v', R', fun post hp => ?_, fun post hp => ?_⟩
  · exact br_t (nI_lt hh (by omega)) (br_t (nI_lt (b := 500) ht (by decide)) (nm_r (nI_1 t) ⟨vh, nm_r eo ⟨vh, nm_r ex ⟨vh, nm_r ey ⟨vh, nm_r ez (xm_tab (o := 7) (by decide) (fun w => absurd w hnb) (fun _ => br_t rfl (nm_r (nI_1 h) (br_f (by decide) (br_f (by decide) (br_f (by decide) (br_f (by decide) (br_f (by decide) (br_f (by decide) (br_f (by decide) (br_f (by decide) (br_t rfl (br_f (by decide) (br_f (by decide) (mX _ (gX post hp))))))))))))))))⟩⟩⟩⟩))
  · obtain ⟨m, hm⟩ := gY post hp
    exact yg_step hn hh hp6 ht Pg hal ⟨m, ym_tab (o := 7) (by omega) (by decide) e1 e2 e3 e4 hxi hyi (fun w => absurd w hnb) (fun _ => by
      refine br_f (by decide) (br_f (by decide) (br_f (by decide) ?_))
      unfold wY_step_182
      refine yi_in (fun _ _ => br_f (by decide) ⟨by decide, ?_⟩) (fun w => absurd ⟨by decide, by decide⟩ w)
      rw [show ((nI 7 - 2) - (nI 7 - 2) / 4 * 4 : Int32) = 1 from by decide]
      exact br_f (by decide) (mY _ (yc_215 (by decide) (yc_280 (by decide) (by decide) (by decide) (by decide) (by decide) (by decide) (by decide) (by rw [nI_1]; exact hm)))))⟩
theorem so_8 (H : sh_H n h p c t 8 ix sz yj x y z st kd pl wd tm dg dc ss pc ln sn sd op ox oy oz ps jp pa pt lw hg le bk fm vy) : so_O t (nI n, 1, fp, pg, ob, nI h, nI t, ix, sz, nI p, nI c, st, kd, pl, wd, tm, dg, dc, ss, pc, op, ox, oy, oz, ps, jp, oi, pa, pt, sh, lc, rc, dr) (nI n, fp, 1, nI p, nI h, nI t, ix, nI c, (-1), sz, yj, st, kd, pl, ln, dc, tm, sn, sd, op, ox, oy, oz, sh, ch, oth, lw, hg, le, bk, fm, vy) := by
  obtain ⟨hn, hh, hp6, ht, hc, hsz, ok, hA, Pg, hF, hal, ⟨e1, e2, e3, e4⟩, hft, hnb⟩ := H
  have vh : vp_in (nI h) 48 := vp_in_nI (by omega) (by decide)
  have ch1 : (nI h).toNatClampNeg = h := nI_clamp (by omega)
  have eo : op (nI h).toNatClampNeg = nI 8 := by rw [ch1, e1]
  have ex : ox (nI h).toNatClampNeg = x := by rw [ch1, e2]
  have ey : oy (nI h).toNatClampNeg = y := by rw [ch1, e3]
  have ez : oz (nI h).toNatClampNeg = z := by rw [ch1, e4]
  obtain ⟨f1, f2⟩ := hft.2.1 (by decide) (by decide)
  have f3 := fs_i (by decide) f2
  have f0 : x = 16 ∨ ft_i kd x := f1.imp id (fs_i (by decide))
  have hxi : 1 ≤ ms_c 8 → x = 16 ∨ ft_i kd x := fun _ => f0
  have hyi : ms_c 8 = 2 → ft_i kd y := fun _ => f3
  obtain ⟨V, d, O⟩ := od_ex (st := st) (z := z) hA f0 (fun w => hnb (Or.inl ⟨by decide, w⟩))
  obtain ⟨j, K, A, W, T, D, B, S, L, e, hj, rfl, R, hX⟩ := ac_ex hA f3 (fun w => hnb (Or.inr ⟨rfl, w⟩))
  obtain ⟨st', dr', oth', sz', ok', hsz', mX, mY⟩ := cq_8 (cn := nI n) (ck := 1) (fp := fp) (pg := pg) (ob := ob) (hr := nI h) (sp := nI (t + 1)) (ix := ix) (sz := sz) (pf := nI p) (sc := nI c) (ye := -1) (yj := 0) (st := st) (kd := kd) (pl := pl) (wd := wd) (tm := tm) (dg := dg) (dc := dc) (ss := ss) (pc := pc) (op := op) (ox := ox) (oy := oy) (oz := oz) (ps := ps) (jp := jp) (oi := oi) (pa := pa) (pt := pt) (sh := sh) (lc := lc) (rc := rc) (dr := dr) (ln := ln) (sn := sn) (sd := sd) (ch := ch) (oth := oth) (lw := lw) (hg := hg) (le := le) (bk := bk) (fm := fm) (vy := vy) ok O hj R hX (fs_K (s := 1) hj (by omega) f2 R)
  obtain ⟨u', v', R', gX, gY⟩ := fg_go (fp := fp) (pg := pg) (ob := ob) (hr := nI h) (ix := ix) (sz := sz') (st := st') (kd := kd) (pl := pl) (wd := wd) (tm := tm) (dg := dg) (dc := dc) (ss := ss) (pc := pc) (op := op) (ox := ox) (oy := oy) (oz := oz) (ps := ps) (jp := jp) (oi := oi) (pa := pa) (pt := pt) (sh := sh) (lc := lc) (rc := rc) (dr := dr') (ln := ln) (sn := sn) (sd := sd) (ch := ch) (oth := oth') (lw := lw) (hg := hg) (le := le) (bk := bk) (fm := fm) (vy := vy) (t := t) (c := c) (h := h + 1) hn (show h + 1 ≤ n by omega) hp6 (by omega) ((show c ≤ 12 * (t + 1) by omega)) hsz' ok' hA Pg hF
  refine Or.inr ⟨u', v', R', fun post hp => ?_, fun post hp => ?_⟩
  · exact br_t (nI_lt hh (by omega)) (br_t (nI_lt (b := 500) ht (by decide)) (nm_r (nI_1 t) ⟨vh, nm_r eo ⟨vh, nm_r ex ⟨vh, nm_r ey ⟨vh, nm_r ez (xm_tab (o := 8) (by decide) (fun w => absurd w hnb) (fun _ => br_t rfl (nm_r (nI_1 h) (br_f (by decide) (br_f (by decide) (br_f (by decide) (br_f (by decide) (br_f (by decide) (br_f (by decide) (br_f (by decide) (br_f (by decide) (br_f (by decide) (br_t rfl (br_f (by decide) (br_f (by decide) (mX _ (gX post hp)))))))))))))))))⟩⟩⟩⟩))
  · obtain ⟨m, hm⟩ := gY post hp
    exact yg_step hn hh hp6 ht Pg hal ⟨m, ym_tab (o := 8) (by omega) (by decide) e1 e2 e3 e4 hxi hyi (fun w => absurd w hnb) (fun _ => by
      refine br_f (by decide) (br_f (by decide) (br_f (by decide) ?_))
      unfold wY_step_182
      refine yi_in (fun _ _ => br_f (by decide) ⟨by decide, ?_⟩) (fun w => absurd ⟨by decide, by decide⟩ w)
      rw [show ((nI 8 - 2) - (nI 8 - 2) / 4 * 4 : Int32) = 2 from by decide]
      exact br_f (by decide) (mY _ (yc_215 (by decide) (yc_280 (by decide) (by decide) (by decide) (by decide) (by decide) (by decide) (by decide) (by rw [nI_1]; exact hm)))))⟩
theorem so_9 (H : sh_H n h p c t 9 ix sz yj x y z st kd pl wd tm dg dc ss pc ln sn sd op ox oy oz ps jp pa pt lw hg le bk fm vy) : so_O t (nI n, 1, fp, pg, ob, nI h, nI t, ix, sz, nI p, nI c, st, kd, pl, wd, tm, dg, dc, ss, pc, op, ox, oy, oz, ps, jp, oi, pa, pt, sh, lc, rc, dr) (nI n, fp, 1, nI p, nI h, nI t, ix, nI c, (-1), sz, yj, st, kd, pl, ln, dc, tm, sn, sd, op, ox, oy, oz, sh, ch, oth, lw, hg, le, bk, fm, vy) := by
  obtain ⟨hn, hh, hp6, ht, hc, hsz, ok, hA, Pg, hF, hal, ⟨e1, e2, e3, e4⟩, hft, hnb⟩ := H
  have vh : vp_in (nI h) 48 := vp_in_nI (by omega) (by decide)
  have ch1 : (nI h).toNatClampNeg = h := nI_clamp (by omega)
  have eo : op (nI h).toNatClampNeg = nI 9 := by rw [ch1, e1]
  have ex : ox (nI h).toNatClampNeg = x := by rw [ch1, e2]
  have ey : oy (nI h).toNatClampNeg = y := by rw [ch1, e3]
  have ez : oz (nI h).toNatClampNeg = z := by rw [ch1, e4]
  obtain ⟨f1, f2⟩ := hft.2.1 (by decide) (by decide)
  have f3 := fs_i (by decide) f2
  have f0 : x = 16 ∨ ft_i kd x := f1.imp id (fs_i (by decide))
  have hxi : 1 ≤ ms_c 9 → x = 16 ∨ ft_i kd x := fun _ => f0
  have hyi : ms_c 9 = 2 → ft_i kd y := fun _ => f3
  obtain ⟨V, d, O⟩ := od_ex (st := st) (z := z) hA f0 (fun w => hnb (Or.inl ⟨by decide, w⟩))
  obtain ⟨j, K, A, W, T, D, B, S, L, e, hj, rfl, R, hX⟩ := ac_ex hA f3 (fun w => hnb (Or.inr ⟨rfl, w⟩))
  obtain ⟨st', dr', oth', sz', ok', hsz', mX, mY⟩ := cq_9 (cn := nI n) (ck := 1) (fp := fp) (pg := pg) (ob := ob) (hr := nI h) (sp := nI (t + 1)) (ix := ix) (sz := sz) (pf := nI p) (sc := nI c) (ye := -1) (yj := 0) (st := st) (kd := kd) (pl := pl) (wd := wd) (tm := tm) (dg := dg) (dc := dc) (ss := ss) (pc := pc) (op := op) (ox := ox) (oy := oy) (oz := oz) (ps := ps) (jp := jp) (oi := oi) (pa := pa) (pt := pt) (sh := sh) (lc := lc) (rc := rc) (dr := dr) (ln := ln) (sn := sn) (sd := sd) (ch := ch) (oth := oth) (lw := lw) (hg := hg) (le := le) (bk := bk) (fm := fm) (vy := vy) ok O hj R hX (fs_K (s := 1) hj (by omega) f2 R)
  obtain ⟨u', v', R', gX, gY⟩ := fg_go (fp := fp) (pg := pg) (ob := ob) (hr := nI h) (ix := ix) (sz := sz') (st := st') (kd := kd) (pl := pl) (wd := wd) (tm := tm) (dg := dg) (dc := dc) (ss := ss) (pc := pc) (op := op) (ox := ox) (oy := oy) (oz := oz) (ps := ps) (jp := jp) (oi := oi) (pa := pa) (pt := pt) (sh := sh) (lc := lc) (rc := rc) (dr := dr') (ln := ln) (sn := sn) (sd := sd) (ch := ch) (oth := oth') (lw := lw) (hg := hg) (le := le) (bk := bk) (fm := fm) (vy := vy) (t := t) (c := c) (h := h + 1) hn (show h + 1 ≤ n by omega) hp6 (by omega) ((show c ≤ 12 * (t + 1) by omega)) hsz' ok' hA Pg hF
  refine Or.inr ⟨u', v', R', fun post hp => ?_, fun post hp => ?_⟩
  · exact br_t (nI_lt hh (by omega)) (br_t (nI_lt (b := 500) ht (by decide)) (nm_r (nI_1 t) ⟨vh, nm_r eo ⟨vh, nm_r ex ⟨vh, nm_r ey ⟨vh, nm_r ez (xm_tab (o := 9) (by decide) (fun w => absurd w hnb) (fun _ => br_t rfl (nm_r (nI_1 h) (br_f (by decide) (br_f (by decide) (br_f (by decide) (br_f (by decide) (br_f (by decide) (br_f (by decide) (br_f (by decide) (br_f (by decide) (br_f (by decide) (br_f (by decide) (br_t rfl (br_f (by decide) (br_f (by decide) (mX _ (gX post hp))))))))))))))))))⟩⟩⟩⟩))
  · obtain ⟨m, hm⟩ := gY post hp
    exact yg_step hn hh hp6 ht Pg hal ⟨m, ym_tab (o := 9) (by omega) (by decide) e1 e2 e3 e4 hxi hyi (fun w => absurd w hnb) (fun _ => by
      refine br_f (by decide) (br_f (by decide) (br_f (by decide) ?_))
      unfold wY_step_182
      refine yi_in (fun _ _ => br_f (by decide) ⟨by decide, ?_⟩) (fun w => absurd ⟨by decide, by decide⟩ w)
      rw [show ((nI 9 - 2) - (nI 9 - 2) / 4 * 4 : Int32) = 3 from by decide]
      exact br_f (by decide) (mY _ (yc_215 (by decide) (yc_280 (by decide) (by decide) (by decide) (by decide) (by decide) (by decide) (by decide) (by rw [nI_1]; exact hm)))))⟩
end
