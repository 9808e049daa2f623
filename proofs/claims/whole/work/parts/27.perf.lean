/-! PERFORM and PERFORM VARYING -/
section
variable {cn ck fp pg ob hr sp ix sz pf sc ye yj : Int32}
variable {st kd pl wd tm dg dc ss pc op ox oy oz ps jp oi pa pt sh lc rc dr ln sn sd ch oth lw hg le bk fm vy : Nat → Int32}
variable {n h p c t : Nat} {x y z o : Int32}
theorem so_15 (H : sh_H n h p c t 15 ix sz yj x y z st kd pl wd tm dg dc ss pc ln sn sd op ox oy oz ps jp pa pt lw hg le bk fm vy) : so_O t (nI n, 1, fp, pg, ob, nI h, nI t, ix, sz, nI p, nI c, st, kd, pl, wd, tm, dg, dc, ss, pc, op, ox, oy, oz, ps, jp, oi, pa, pt, sh, lc, rc, dr) (nI n, fp, 1, nI p, nI h, nI t, ix, nI c, (-1), sz, yj, st, kd, pl, ln, dc, tm, sn, sd, op, ox, oy, oz, sh, ch, oth, lw, hg, le, bk, fm, vy) := by
  obtain ⟨hn, hh, hp6, ht, hc, hsz, ok, hA, Pg, hF, hal, ⟨e1, e2, e3, e4⟩, hft, hnb⟩ := H
  have vh : vp_in (nI h) 48 := vp_in_nI (by omega) (by decide)
  have ch1 : (nI h).toNatClampNeg = h := nI_clamp (by omega)
  have eo : op (nI h).toNatClampNeg = nI 15 := by rw [ch1, e1]
  have ex : ox (nI h).toNatClampNeg = x := by rw [ch1, e2]
  have ey : oy (nI h).toNatClampNeg = y := by rw [ch1, e3]
  have ez : oz (nI h).toNatClampNeg = z := by rw [ch1, e4]
  obtain ⟨a, b, rfl, rfl, hab, hb⟩ := hft.2.2.2.2.1 (Or.inl rfl)
  have hxi : 1 ≤ ms_c 15 → nI a = 16 ∨ ft_i kd (nI a) := (fun w => absurd w (by decide))
  have hyi : ms_c 15 = 2 → ft_i kd (nI b) := (fun w => absurd w (by decide))
  have hbn := tb_le op n
  by_cases hz : z ≤ 0
  · have hz1 : ¬ 1 ≤ z := fun w => absurd (Int32.le_trans w hz) (by decide)
    obtain ⟨u', v', R', gX, gY⟩ := fg_go (fp := fp) (pg := pg) (ob := ob) (hr := nI h) (ix := ix) (sz := sz) (st := st) (kd := kd) (pl := pl) (wd := wd) (tm := tm) (dg := dg) (dc := dc) (ss := ss) (pc := pc) (op := op) (ox := ox) (oy := oy) (oz := oz) (ps := ps) (jp := jp) (oi := oi) (pa := pa) (pt := pt) (sh := sh) (lc := lc) (rc := rc) (dr := dr) (ln := ln) (sn := sn) (sd := sd) (ch := ch) (oth := oth) (lw := lw) (hg := hg) (le := le) (bk := bk) (fm := fm) (vy := vy) (t := t) (c := c) (h := h + 1) hn (show h + 1 ≤ n by omega) hp6 (by omega) ((show c ≤ 12 * (t + 1) by omega)) hsz ok hA Pg hF
    refine Or.inr ⟨u', v', R', fun post hp => ?_, fun post hp => ?_⟩
    · exact br_t (nI_lt hh (by omega)) (br_t (nI_lt (b := 500) ht (by decide)) (nm_r (nI_1 t) ⟨vh, nm_r eo ⟨vh, nm_r ex ⟨vh, nm_r ey ⟨vh, nm_r ez (xm_tab (o := 15) (by decide) (fun w => absurd w hnb) (fun _ => br_t rfl (nm_r (nI_1 h) (br_f (by decide) (br_f (by decide) (br_f (by decide) (br_f (by decide) (br_f (by decide) (br_f (by decide) (br_f (by decide) (br_f (by decide) (br_f (by decide) (br_f (by decide) (br_f (by decide) (br_f (by decide) (br_f (by decide) (br_f (by decide) (br_f (by decide) (br_f (by decide) (br_t rfl (br_t hz (gX post hp))))))))))))))))))))))⟩⟩⟩⟩))
    · obtain ⟨m, hm⟩ := gY post hp
      exact yg_step hn hh hp6 ht Pg hal ⟨m, ym_tab (o := 15) (by omega) (by decide) e1 e2 e3 e4 hxi hyi (fun w => absurd w hnb) (fun _ => br_t rfl (br_f (by decide) (br_f hz1 (nm_r (nI_1 h) hm))))⟩
  · have hz0 : ¬ z < 0 := fun w => hz (Int32.le_of_lt w)
    obtain ⟨ζ, hζ, rfl⟩ := nI_of hz0
    have hζ1 : 1 ≤ ζ := by
      rcases Nat.eq_zero_or_pos ζ with w | w
      · subst w
        exact absurd (show nI 0 ≤ 0 by decide) hz
      · exact w
    have hz1 : 1 ≤ nI ζ := nI_le (a := 1) hζ1 hζ
    by_cases hp : p = 6
    · subst hp
      refine Or.inl ⟨3, (nI n, 1, fp, pg, ob, nI h, nI (t + 1), ix, sz, nI 6, nI c, st, kd, pl, wd, tm, dg, dc, ss, pc, op, ox, oy, oz, ps, jp, oi, pa, pt, sh, lc, rc, dr), (nI n, fp, 1, nI 6, nI h, nI (t + 1), ix, nI c, 3, sz, 0, st, kd, pl, ln, dc, tm, sn, sd, op, ox, oy, oz, sh, ch, oth, lw, hg, le, bk, fm, vy), by decide, ⟨⟨rfl, rfl, rfl, rfl, rfl, rfl, rfl, rfl, rfl, rfl, rfl, rfl, rfl, rfl, rfl, rfl, rfl⟩, rl_of hn hsz ok hA Pg rfl⟩, fun post hp => ?_, fun post hp => ?_⟩
      · exact br_t (nI_lt hh (by omega)) (br_t (nI_lt (b := 500) ht (by decide)) (nm_r (nI_1 t) ⟨vh, nm_r eo ⟨vh, nm_r ex ⟨vh, nm_r ey ⟨vh, nm_r ez (xm_tab (o := 15) (by decide) (fun w => absurd w hnb) (fun _ => br_t rfl (nm_r (nI_1 h) (br_f (by decide) (br_f (by decide) (br_f (by decide) (br_f (by decide) (br_f (by decide) (br_f (by decide) (br_f (by decide) (br_f (by decide) (br_f (by decide) (br_f (by decide) (br_f (by decide) (br_f (by decide) (br_f (by decide) (br_f (by decide) (br_f (by decide) (br_f (by decide) (br_t rfl (br_f hz (br_f (by decide) hp))))))))))))))))))))))⟩⟩⟩⟩))
      · exact yg_step hn hh hp6 ht Pg hal ⟨1, ym_tab (o := 15) (by omega) (by decide) e1 e2 e3 e4 hxi hyi (fun w => absurd w hnb) (fun _ => br_t rfl (br_f (by decide) (br_t hz1 (br_t rfl (br_t (by decide) hp)))))⟩
    · have v6 : vp_in (nI p) 6 := vp_in_nI (by omega) (by decide)
      have cp : (nI p).toNatClampNeg = p := nI_clamp (by omega)
      obtain ⟨k0, e, a1, a2, a3, a4, -⟩ := tb_par Pg.2.2.1 (show a < tb_z op n by omega)
      have hix : (ix : Int32) = if op h = 16 then nI (0 + 1) else ix := by
        rw [e1]
        exact (if_neg (by decide)).symm
      have hvy : vp_nar .boolean 0 = if op h = 16 then 1 else 0 := by
        rw [e1]
        exact (if_neg (by decide)).symm
      have hp6' : ¬ nI p = 6 := fun w => hp ((nI_eq (b := 6) (by omega) (by decide)).mp w)
      have hpush : rn_F op ox oy oz (upd pa p (nI h)) (upd (upd pt p 0) p (nI (0 + 1))) (upd lw p (nI a)) (upd hg p (nI b)) (upd le p (nI ζ)) (upd bk p (nI h + 1)) (upd fm p 1) (upd vy p (vp_nar .boolean 0)) n (p + 1) := by
        rw [pk_uu]
        exact rn_push (i := h) (ζ := ζ) hF hh (by rw [e1]; decide) e4 hζ1 hζ rfl rfl e2.symm e3.symm e4.symm (nI_1 h) rfl hvy
      refine Or.inr ⟨(nI n, 1, fp, pg, ob, nI k0, nI (t + 1), ix, sz, nI (p + 1), nI c, st, kd, pl, wd, tm, dg, dc, ss, pc, op, ox, oy, oz, ps, jp, oi, upd pa p (nI h), upd (upd pt p 0) p (nI (0 + 1)), sh, lc, rc, dr), (nI n, fp, 1, nI (p + 1), nI k0, nI (t + 1), ix, nI c, (-1), sz, 1, st, kd, pl, ln, dc, tm, sn, sd, op, ox, oy, oz, sh, ch, oth, upd lw p (nI a), upd hg p (nI b), upd le p (nI ζ), upd bk p (nI h + 1), upd fm p 1, upd vy p (vp_nar .boolean 0)), ⟨⟨rfl, rfl, rfl, rfl, rfl, rfl, rfl, rfl, rfl, rfl, rfl, rfl, rfl, rfl, rfl, rfl, rfl⟩, ⟨rfl, rfl⟩, n, k0, p + 1, c, ⟨rfl, rfl, rfl, rfl, rfl, rfl, rfl⟩, hn, by omega, by omega, by omega, by omega, hsz, Or.inr rfl, ok, hA, Pg, hpush, Or.inl (by decide)⟩, fun post hp => ?_, fun post hp => ?_⟩
      · have hbt : wpX_beginPerform (fun r u => match u with | (cn, ck, fp, pg, ob, hr, sp, ix, sz, pf, sc, st, kd, pl, wd, tm, dg, dc, ss, pc, op, ox, oy, oz, ps, jp, oi, pa, pt, sh, lc, rc, dr) => post r (cn, ck, fp, pg, ob, hr, sp, ix, sz, pf, sc, st, kd, pl, wd, tm, dg, dc, ss, pc, op, ox, oy, oz, ps, jp, oi, pa, pt, sh, lc, rc, dr)) (nI n, 1, fp, pg, ob, nI h, nI (t + 1), ix, sz, nI p, nI c, st, kd, pl, wd, tm, dg, dc, ss, pc, op, ox, oy, oz, ps, jp, oi, pa, pt, sh, lc, rc, dr) := by
          refine br_t (nI_lt (b := 6) (by omega) (by decide)) ⟨v6, ?_⟩
          rw [cp]
          refine nm_e ⟨v6, nm_e (nm_r (nI_1 p) ?_)⟩
          exact xg_time (i := h) (τ := 0) (a := a) (by omega) (by omega) pk_us pk_us e2 (by omega) a4 hix hp
        exact br_t (nI_lt hh (by omega)) (br_t (nI_lt (b := 500) ht (by decide)) (nm_r (nI_1 t) ⟨vh, nm_r eo ⟨vh, nm_r ex ⟨vh, nm_r ey ⟨vh, nm_r ez (xm_tab (o := 15) (by decide) (fun w => absurd w hnb) (fun _ => br_t rfl (nm_r (nI_1 h) (br_f (by decide) (br_f (by decide) (br_f (by decide) (br_f (by decide) (br_f (by decide) (br_f (by decide) (br_f (by decide) (br_f (by decide) (br_f (by decide) (br_f (by decide) (br_f (by decide) (br_f (by decide) (br_f (by decide) (br_f (by decide) (br_f (by decide) (br_f (by decide) (br_t rfl (br_f hz hbt)))))))))))))))))))))⟩⟩⟩⟩))
      · obtain ⟨m, hm⟩ := hp
        have hpf : wpY_perform (fun u => match u with | (cn, fp, ck, pf, hr, sp, ix, sc, ye, sz, yj, st, kd, pl, ln, dc, tm, sn, sd, op, ox, oy, oz, sh, ch, oth, lw, hg, le, bk, fm, vy) => wY_run_49 post m cn fp ck pf hr sp ix sc ye sz yj st kd pl ln dc tm sn sd op ox oy oz sh ch oth lw hg le bk fm vy) (nI n, fp, 1, nI p, nI h, nI (t + 1), ix, nI c, (-1), sz, 0, st, kd, pl, ln, dc, tm, sn, sd, op, ox, oy, oz, sh, ch, oth, lw, hg, le, bk, fm, vy) 0 (nI a) (nI b) (nI ζ) := by
          refine br_t hz1 (br_f hp6' ⟨v6, ?_⟩)
          rw [cp]
          refine nm_e ⟨v6, nm_e ⟨v6, nm_e ⟨v6, nm_e ⟨v6, nm_e ⟨v6, nm_e (nm_r (nI_1 p) ?_)⟩⟩⟩⟩⟩
          exact br_t rfl (yb_begin (by omega) a2 a3 hm)
        exact yg_step hn hh hp6 ht Pg hal ⟨m, ym_tab (o := 15) (by omega) (by decide) e1 e2 e3 e4 hxi hyi (fun w => absurd w hnb) (fun _ => br_t rfl (br_f (by decide) (hpf)))⟩
theorem so_16 (H : sh_H n h p c t 16 ix sz yj x y z st kd pl wd tm dg dc ss pc ln sn sd op ox oy oz ps jp pa pt lw hg le bk fm vy) : so_O t (nI n, 1, fp, pg, ob, nI h, nI t, ix, sz, nI p, nI c, st, kd, pl, wd, tm, dg, dc, ss, pc, op, ox, oy, oz, ps, jp, oi, pa, pt, sh, lc, rc, dr) (nI n, fp, 1, nI p, nI h, nI t, ix, nI c, (-1), sz, yj, st, kd, pl, ln, dc, tm, sn, sd, op, ox, oy, oz, sh, ch, oth, lw, hg, le, bk, fm, vy) := by
  obtain ⟨hn, hh, hp6, ht, hc, hsz, ok, hA, Pg, hF, hal, ⟨e1, e2, e3, e4⟩, hft, hnb⟩ := H
  have vh : vp_in (nI h) 48 := vp_in_nI (by omega) (by decide)
  have ch1 : (nI h).toNatClampNeg = h := nI_clamp (by omega)
  have eo : op (nI h).toNatClampNeg = nI 16 := by rw [ch1, e1]
  have ex : ox (nI h).toNatClampNeg = x := by rw [ch1, e2]
  have ey : oy (nI h).toNatClampNeg = y := by rw [ch1, e3]
  have ez : oz (nI h).toNatClampNeg = z := by rw [ch1, e4]
  obtain ⟨a, b, rfl, rfl, hab, hb⟩ := hft.2.2.2.2.1 (Or.inr rfl)
  have hxi : 1 ≤ ms_c 16 → nI a = 16 ∨ ft_i kd (nI a) := (fun w => absurd w (by decide))
  have hyi : ms_c 16 = 2 → ft_i kd (nI b) := (fun w => absurd w (by decide))
  have hbn := tb_le op n
  by_cases hz : z ≤ 0
  · have hz1 : ¬ 1 ≤ z := fun w => absurd (Int32.le_trans w hz) (by decide)
    obtain ⟨u', v', R', gX, gY⟩ := fg_go (fp := fp) (pg := pg) (ob := ob) (hr := nI h) (ix := ix) (sz := sz) (st := st) (kd := kd) (pl := pl) (wd := wd) (tm := tm) (dg := dg) (dc := dc) (ss := ss) (pc := pc) (op := op) (ox := ox) (oy := oy) (oz := oz) (ps := ps) (jp := jp) (oi := oi) (pa := pa) (pt := pt) (sh := sh) (lc := lc) (rc := rc) (dr := dr) (ln := ln) (sn := sn) (sd := sd) (ch := ch) (oth := oth) (lw := lw) (hg := hg) (le := le) (bk := bk) (fm := fm) (vy := vy) (t := t) (c := c) (h := h + 1) hn (show h + 1 ≤ n by omega) hp6 (by omega) ((show c ≤ 12 * (t + 1) by omega)) hsz ok hA Pg hF
    refine Or.inr ⟨u', v', R', fun post hp => ?_, fun post hp => ?_⟩
    · exact br_t (nI_lt hh (by omega)) (br_t (nI_lt (b := 500) ht (by decide)) (nm_r (nI_1 t) ⟨vh, nm_r eo ⟨vh, nm_r ex ⟨vh, nm_r ey ⟨vh, nm_r ez (xm_tab (o := 16) (by decide) (fun w => absurd w hnb) (fun _ => br_t rfl (nm_r (nI_1 h) (br_f (by decide) (br_f (by decide) (br_f (by decide) (br_f (by decide) (br_f (by decide) (br_f (by decide) (br_f (by decide) (br_f (by decide) (br_f (by decide) (br_f (by decide) (br_f (by decide) (br_f (by decide) (br_f (by decide) (br_f (by decide) (br_f (by decide) (br_f (by decide) (br_f (by decide) (br_t rfl (br_t hz (gX post hp)))))))))))))))))))))))⟩⟩⟩⟩))
    · obtain ⟨m, hm⟩ := gY post hp
      exact yg_step hn hh hp6 ht Pg hal ⟨m, ym_tab (o := 16) (by omega) (by decide) e1 e2 e3 e4 hxi hyi (fun w => absurd w hnb) (fun _ => br_f (by decide) (br_t rfl (br_t rfl (br_f hz1 (nm_r (nI_1 h) hm)))))⟩
  · have hz0 : ¬ z < 0 := fun w => hz (Int32.le_of_lt w)
    obtain ⟨ζ, hζ, rfl⟩ := nI_of hz0
    have hζ1 : 1 ≤ ζ := by
      rcases Nat.eq_zero_or_pos ζ with w | w
      · subst w
        exact absurd (show nI 0 ≤ 0 by decide) hz
      · exact w
    have hz1 : 1 ≤ nI ζ := nI_le (a := 1) hζ1 hζ
    by_cases hp : p = 6
    · subst hp
      refine Or.inl ⟨3, (nI n, 1, fp, pg, ob, nI h, nI (t + 1), ix, sz, nI 6, nI c, st, kd, pl, wd, tm, dg, dc, ss, pc, op, ox, oy, oz, ps, jp, oi, pa, pt, sh, lc, rc, dr), (nI n, fp, 1, nI 6, nI h, nI (t + 1), ix, nI c, 3, sz, 0, st, kd, pl, ln, dc, tm, sn, sd, op, ox, oy, oz, sh, ch, oth, lw, hg, le, bk, fm, vy), by decide, ⟨⟨rfl, rfl, rfl, rfl, rfl, rfl, rfl, rfl, rfl, rfl, rfl, rfl, rfl, rfl, rfl, rfl, rfl⟩, rl_of hn hsz ok hA Pg rfl⟩, fun post hp => ?_, fun post hp => ?_⟩
      · exact br_t (nI_lt hh (by omega)) (br_t (nI_lt (b := 500) ht (by decide)) (nm_r (nI_1 t) ⟨vh, nm_r eo ⟨vh, nm_r ex ⟨vh, nm_r ey ⟨vh, nm_r ez (xm_tab (o := 16) (by decide) (fun w => absurd w hnb) (fun _ => br_t rfl (nm_r (nI_1 h) (br_f (by decide) (br_f (by decide) (br_f (by decide) (br_f (by decide) (br_f (by decide) (br_f (by decide) (br_f (by decide) (br_f (by decide) (br_f (by decide) (br_f (by decide) (br_f (by decide) (br_f (by decide) (br_f (by decide) (br_f (by decide) (br_f (by decide) (br_f (by decide) (br_f (by decide) (br_t rfl (br_f hz (br_f (by decide) hp)))))))))))))))))))))))⟩⟩⟩⟩))
      · exact yg_step hn hh hp6 ht Pg hal ⟨1, ym_tab (o := 16) (by omega) (by decide) e1 e2 e3 e4 hxi hyi (fun w => absurd w hnb) (fun _ => br_f (by decide) (br_t rfl (br_t rfl (br_t hz1 (br_t rfl (br_t (by decide) hp))))))⟩
    · have v6 : vp_in (nI p) 6 := vp_in_nI (by omega) (by decide)
      have cp : (nI p).toNatClampNeg = p := nI_clamp (by omega)
      obtain ⟨k0, e, a1, a2, a3, a4, -⟩ := tb_par Pg.2.2.1 (show a < tb_z op n by omega)
      have hix : (1 : Int32) = if op h = 16 then nI (0 + 1) else ix := by
        rw [e1]
        exact (if_pos rfl).symm
      have hvy : vp_nar .boolean 1 = if op h = 16 then 1 else 0 := by
        rw [e1]
        exact (if_pos rfl).symm
      have hp6' : ¬ nI p = 6 := fun w => hp ((nI_eq (b := 6) (by omega) (by decide)).mp w)
      have hpush : rn_F op ox oy oz (upd pa p (nI h)) (upd (upd pt p 0) p (nI (0 + 1))) (upd lw p (nI a)) (upd hg p (nI b)) (upd le p (nI ζ)) (upd bk p (nI h + 1)) (upd fm p 1) (upd vy p (vp_nar .boolean 1)) n (p + 1) := by
        rw [pk_uu]
        exact rn_push (i := h) (ζ := ζ) hF hh (by rw [e1]; decide) e4 hζ1 hζ rfl rfl e2.symm e3.symm e4.symm (nI_1 h) rfl hvy
      refine Or.inr ⟨(nI n, 1, fp, pg, ob, nI k0, nI (t + 1), 1, sz, nI (p + 1), nI c, st, kd, pl, wd, tm, dg, dc, ss, pc, op, ox, oy, oz, ps, jp, oi, upd pa p (nI h), upd (upd pt p 0) p (nI (0 + 1)), sh, lc, rc, dr), (nI n, fp, 1, nI (p + 1), nI k0, nI (t + 1), 1, nI c, (-1), sz, 1, st, kd, pl, ln, dc, tm, sn, sd, op, ox, oy, oz, sh, ch, oth, upd lw p (nI a), upd hg p (nI b), upd le p (nI ζ), upd bk p (nI h + 1), upd fm p 1, upd vy p (vp_nar .boolean 1)), ⟨⟨rfl, rfl, rfl, rfl, rfl, rfl, rfl, rfl, rfl, rfl, rfl, rfl, rfl, rfl, rfl, rfl, rfl⟩, ⟨rfl, rfl⟩, n, k0, p + 1, c, ⟨rfl, rfl, rfl, rfl, rfl, rfl, rfl⟩, hn, by omega, by omega, by omega, by omega, hsz, Or.inr rfl, ok, hA, Pg, hpush, Or.inl (by decide)⟩, fun post hp => ?_, fun post hp => ?_⟩
      · have hbt : wpX_beginPerform (fun r u => match u with | (cn, ck, fp, pg, ob, hr, sp, ix, sz, pf, sc, st, kd, pl, wd, tm, dg, dc, ss, pc, op, ox, oy, oz, ps, jp, oi, pa, pt, sh, lc, rc, dr) => post r (cn, ck, fp, pg, ob, hr, sp, ix, sz, pf, sc, st, kd, pl, wd, tm, dg, dc, ss, pc, op, ox, oy, oz, ps, jp, oi, pa, pt, sh, lc, rc, dr)) (nI n, 1, fp, pg, ob, nI h, nI (t + 1), ix, sz, nI p, nI c, st, kd, pl, wd, tm, dg, dc, ss, pc, op, ox, oy, oz, ps, jp, oi, pa, pt, sh, lc, rc, dr) := by
          refine br_t (nI_lt (b := 6) (by omega) (by decide)) ⟨v6, ?_⟩
          rw [cp]
          refine nm_e ⟨v6, nm_e (nm_r (nI_1 p) ?_)⟩
          exact xg_time (i := h) (τ := 0) (a := a) (by omega) (by omega) pk_us pk_us e2 (by omega) a4 hix hp
        exact br_t (nI_lt hh (by omega)) (br_t (nI_lt (b := 500) ht (by decide)) (nm_r (nI_1 t) ⟨vh, nm_r eo ⟨vh, nm_r ex ⟨vh, nm_r ey ⟨vh, nm_r ez (xm_tab (o := 16) (by decide) (fun w => absurd w hnb) (fun _ => br_t rfl (nm_r (nI_1 h) (br_f (by decide) (br_f (by decide) (br_f (by decide) (br_f (by decide) (br_f (by decide) (br_f (by decide) (br_f (by decide) (br_f (by decide) (br_f (by decide) (br_f (by decide) (br_f (by decide) (br_f (by decide) (br_f (by decide) (br_f (by decide) (br_f (by decide) (br_f (by decide) (br_f (by decide) (br_t rfl (br_f hz hbt))))))))))))))))))))))⟩⟩⟩⟩))
      · obtain ⟨m, hm⟩ := hp
        have hpf : wpY_perform (fun u => match u with | (cn, fp, ck, pf, hr, sp, ix, sc, ye, sz, yj, st, kd, pl, ln, dc, tm, sn, sd, op, ox, oy, oz, sh, ch, oth, lw, hg, le, bk, fm, vy) => wY_run_49 post m cn fp ck pf hr sp ix sc ye sz yj st kd pl ln dc tm sn sd op ox oy oz sh ch oth lw hg le bk fm vy) (nI n, fp, 1, nI p, nI h, nI (t + 1), ix, nI c, (-1), sz, 0, st, kd, pl, ln, dc, tm, sn, sd, op, ox, oy, oz, sh, ch, oth, lw, hg, le, bk, fm, vy) 1 (nI a) (nI b) (nI ζ) := by
          refine br_t hz1 (br_f hp6' ⟨v6, ?_⟩)
          rw [cp]
          refine nm_e ⟨v6, nm_e ⟨v6, nm_e ⟨v6, nm_e ⟨v6, nm_e ⟨v6, nm_e (nm_r (nI_1 p) ?_)⟩⟩⟩⟩⟩
          exact br_f (by decide) (yb_begin (by omega) a2 a3 hm)
        exact yg_step hn hh hp6 ht Pg hal ⟨m, ym_tab (o := 16) (by omega) (by decide) e1 e2 e3 e4 hxi hyi (fun w => absurd w hnb) (fun _ => br_f (by decide) (br_t rfl (br_t rfl (hpf))))⟩
end
