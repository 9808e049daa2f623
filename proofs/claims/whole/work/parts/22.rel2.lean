/-! the relation between two calls and the relation between two turns of a run -/
def iv_R (u : SX) (v : SY) : Prop := match u, v with
  | (cn, ck, fp, pg, ob, hr, sp, ix, sz, pf, sc, st, kd, pl, wd, tm, dg, dc, ss, pc, op, ox, oy, oz, ps, jp, oi, pa, pt, sh, lc, rc, dr), (cn', fp', ck', pf', hr', sp', ix', sc', ye, sz', yj, st', kd', pl', ln, dc', tm', sn, sd, op', ox', oy', oz', sh', ch, oth, lw, hg, le, bk, fm, vy) => (cn' = cn ∧ fp' = fp ∧ ck' = ck ∧ sp' = sp ∧ ix' = ix ∧ sc' = sc ∧ sz' = sz ∧ st' = st ∧ kd' = kd ∧ pl' = pl ∧ dc' = dc ∧ tm' = tm ∧ op' = op ∧ ox' = ox ∧ oy' = oy ∧ oz' = oz ∧ sh' = sh) ∧ rl_R cn ck sz st kd pl wd tm dg dc ss pc ln sn sd op ox oy oz ps jp
def rr_I (t : Nat) (cn ck hr sp sz pf sc ye yj : Int32) (st kd pl wd tm dg dc ss pc ln sn sd op ox oy oz ps jp pa pt lw hg le bk fm vy : Nat → Int32) : Prop :=
  ∃ n h p c : Nat, (cn = nI n ∧ hr = nI h ∧ pf = nI p ∧ sp = nI t ∧ sc = nI c ∧ ye = -1 ∧ ck = 1) ∧ n ≤ 48 ∧ h ≤ n ∧ p ≤ 6 ∧ t ≤ 500 ∧ c ≤ 12 * t ∧ (sz = 0 ∨ sz = 1) ∧ (yj = 0 ∨ yj = 1) ∧
    st_ok st ∧ it_A kd pl wd tm dg dc ss pc ln sn sd ∧ rl_P op ox oy oz kd ps jp n ∧ rn_F op ox oy oz pa pt lw hg le bk fm vy n p ∧ ag_al yj h p hg ps op n
def rr_R (t : Nat) (u : SX) (v : SY) : Prop := match u, v with
  | (cn, ck, fp, pg, ob, hr, sp, ix, sz, pf, sc, st, kd, pl, wd, tm, dg, dc, ss, pc, op, ox, oy, oz, ps, jp, oi, pa, pt, sh, lc, rc, dr), (cn', fp', ck', pf', hr', sp', ix', sc', ye, sz', yj, st', kd', pl', ln, dc', tm', sn, sd, op', ox', oy', oz', sh', ch, oth, lw, hg, le, bk, fm, vy) => (cn' = cn ∧ fp' = fp ∧ ck' = ck ∧ sp' = sp ∧ ix' = ix ∧ sc' = sc ∧ sz' = sz ∧ st' = st ∧ kd' = kd ∧ pl' = pl ∧ dc' = dc ∧ tm' = tm ∧ op' = op ∧ ox' = ox ∧ oy' = oy ∧ oz' = oz ∧ sh' = sh) ∧ (pf' = pf ∧ hr' = hr) ∧ rr_I t cn ck hr sp sz pf sc ye yj st kd pl wd tm dg dc ss pc ln sn sd op ox oy oz ps jp pa pt lw hg le bk fm vy
def yr_W (post : Int32 → SY → Prop) (m : Nat) (v : SY) : Prop := match v with
  | (cn, fp, ck, pf, hr, sp, ix, sc, ye, sz, yj, st, kd, pl, ln, dc, tm, sn, sd, op, ox, oy, oz, sh, ch, oth, lw, hg, le, bk, fm, vy) => wY_run_49 post m cn fp ck pf hr sp ix sc ye sz yj st kd pl ln dc tm sn sd op ox oy oz sh ch oth lw hg le bk fm vy
/-- one step of a run: it ends with one answer on both sides, or both go on -/
def so_O (t : Nat) (u : SX) (v : SY) : Prop :=
  (∃ (r : Int32) (u' : SX) (v' : SY), ¬ r = -2 ∧ iv_R u' v' ∧ (∀ post, post r u' → wpX_takeStep post u) ∧ (∀ post, post r v' → ∃ m, yr_W post m v)) ∨
  (∃ (u' : SX) (v' : SY), rr_R (t + 1) u' v' ∧ (∀ post, post (-2) u' → wpX_takeStep post u) ∧ (∀ post, (∃ m, yr_W post m v') → ∃ m, yr_W post m v))
section
variable {cn ck fp pg ob hr sp ix sz pf sc ye yj : Int32}
variable {st kd pl wd tm dg dc ss pc op ox oy oz ps jp oi pa pt sh lc rc dr ln sn sd ch oth lw hg le bk fm vy : Nat → Int32}
variable {n h p c t : Nat}
theorem rl_of {ck : Int32} (hn : n ≤ 48) (hsz : sz = 0 ∨ sz = 1) (ok : st_ok st) (hA : it_A kd pl wd tm dg dc ss pc ln sn sd) (Pg : rl_P op ox oy oz kd ps jp n) (hck : ck = 1) : rl_R (nI n) ck sz st kd pl wd tm dg dc ss pc ln sn sd op ox oy oz ps jp :=
  ⟨ok, hA, ⟨n, hn, rfl, fun j hj => by obtain ⟨o, h1, h2, -⟩ := Pg.2.2.2.1 j hj; exact ⟨o, h1, h2⟩, fun _ => Pg⟩, Or.inr hck, hsz⟩
theorem fg_go (hn : n ≤ 48) (hh : h ≤ n) (hp6 : p ≤ 6) (ht : t + 1 ≤ 500) (hc : c ≤ 12 * (t + 1)) (hsz : sz = 0 ∨ sz = 1) (ok : st_ok st) (hA : it_A kd pl wd tm dg dc ss pc ln sn sd) (Pg : rl_P op ox oy oz kd ps jp n) (hF : rn_F op ox oy oz pa pt lw hg le bk fm vy n p) :
    ∃ u' v', rr_R (t + 1) u' v' ∧ (∀ post, post (-2) u' → wX_takeStep_344 post (nI h) (nI n) 1 fp pg ob hr (nI (t + 1)) ix sz (nI p) (nI c) st kd pl wd tm dg dc ss pc op ox oy oz ps jp oi pa pt sh lc rc dr) ∧
      (∀ post, (∃ m, yr_W post m v') → ∃ m, wY_run_49 post m (nI n) fp 1 (nI p) (nI h) (nI (t + 1)) ix (nI c) (-1) sz 0 st kd pl ln dc tm sn sd op ox oy oz sh ch oth lw hg le bk fm vy) := by
  obtain ⟨h', p', ix', yj', pt', le', fm', b1, b2, b3, b4, b5, hX, hY⟩ := ag_L (ck := 1) (fp := fp) (pg := pg) (ob := ob) (sp := nI (t + 1)) (ix := ix) (sz := sz) (sc := nI c) (ye := -1) (st := st) (kd := kd) (pl := pl) (wd := wd) (tm := tm) (dg := dg) (dc := dc) (ss := ss) (pc := pc) (op := op) (ox := ox) (oy := oy) (oz := oz) (ps := ps) (jp := jp) (oi := oi) (pa := pa) (pt := pt) (sh := sh) (lc := lc) (rc := rc) (dr := dr) (ln := ln) (sn := sn) (sd := sd) (ch := ch) (oth := oth) (lw := lw) (hg := hg) (bk := bk) (fm := fm) (vy := vy) hn Pg (by decide) p 0 h le (by omega) hh hF
  refine ⟨(nI n, 1, fp, pg, ob, nI h', nI (t + 1), ix', sz, nI p', nI c, st, kd, pl, wd, tm, dg, dc, ss, pc, op, ox, oy, oz, ps, jp, oi, pa, pt', sh, lc, rc, dr), (nI n, fp, 1, nI p', nI h', nI (t + 1), ix', nI c, (-1), sz, yj', st, kd, pl, ln, dc, tm, sn, sd, op, ox, oy, oz, sh, ch, oth, lw, hg, le', bk, fm', vy), ⟨⟨rfl, rfl, rfl, rfl, rfl, rfl, rfl, rfl, rfl, rfl, rfl, rfl, rfl, rfl, rfl, rfl, rfl⟩, ⟨rfl, rfl⟩, n, h', p', c, ⟨rfl, rfl, rfl, rfl, rfl, rfl, rfl⟩, hn, b1, b2, ht, hc, hsz, b4, ok, hA, Pg, b3, b5⟩, fun post hp => ?_, fun post hp => hY post hp⟩
  exact ⟨p + 1, hX _ hp⟩
/-- the reference's turn where no end is reached, up to its step -/
theorem yg_step {post : Int32 → SY → Prop} (hn : n ≤ 48) (hh : h < n) (hp6 : p ≤ 6) (ht : t < 500) (Pg : rl_P op ox oy oz kd ps jp n) (hal : ag_al yj h p hg ps op n)
    (H : ∃ m, wpY_step (fun u => match u with | (cn, fp, ck, pf, hr, sp, ix, sc, ye, sz, yj, st, kd, pl, ln, dc, tm, sn, sd, op, ox, oy, oz, sh, ch, oth, lw, hg, le, bk, fm, vy) => wY_run_49 post m cn fp ck pf hr sp ix sc ye sz yj st kd pl ln dc tm sn sd op ox oy oz sh ch oth lw hg le bk fm vy) (nI n, fp, 1, nI p, nI h, nI (t + 1), ix, nI c, (-1), sz, 0, st, kd, pl, ln, dc, tm, sn, sd, op, ox, oy, oz, sh, ch, oth, lw, hg, le, bk, fm, vy)) :
    ∃ m, yr_W post m (nI n, fp, 1, nI p, nI h, nI t, ix, nI c, (-1), sz, yj, st, kd, pl, ln, dc, tm, sn, sd, op, ox, oy, oz, sh, ch, oth, lw, hg, le, bk, fm, vy) := by
  obtain ⟨m, hm⟩ := H
  obtain ⟨b, hb⟩ : ∃ b, ¬ yj = 0 ∨ p = 0 ∨ (hg (p - 1) = nI b ∧ b < tb_z op n ∧ ¬ nI h = ps (b + 1)) := by
    rcases hal with z | z | ⟨b, z⟩
    · exact ⟨0, Or.inl z⟩
    · exact ⟨0, Or.inr (Or.inl z)⟩
    · exact ⟨b, Or.inr (Or.inr z)⟩
  refine ⟨m + 1, yr_head hn hp6 Pg.2.2.1 (by decide) hb ?_⟩
  exact br_t rfl (br_t (nI_lt hh (by omega)) (br_f (fun z => by have := (nI_eq (b := 500) (by omega) (by decide)).mp z; omega) (nm_r (nI_1 t) hm)))
/-- the run is over: nothing is left, or the steps are used up -/
theorem so_end (hn : n ≤ 48) (hh : h = n) (hp6 : p ≤ 6) (hsz : sz = 0 ∨ sz = 1) (ok : st_ok st) (hA : it_A kd pl wd tm dg dc ss pc ln sn sd) (Pg : rl_P op ox oy oz kd ps jp n) (hal : ag_al yj h p hg ps op n) :
    so_O t (nI n, 1, fp, pg, ob, nI h, nI t, ix, sz, nI p, nI c, st, kd, pl, wd, tm, dg, dc, ss, pc, op, ox, oy, oz, ps, jp, oi, pa, pt, sh, lc, rc, dr) (nI n, fp, 1, nI p, nI h, nI t, ix, nI c, (-1), sz, yj, st, kd, pl, ln, dc, tm, sn, sd, op, ox, oy, oz, sh, ch, oth, lw, hg, le, bk, fm, vy) := by
  obtain ⟨b, hb⟩ : ∃ b, ¬ yj = 0 ∨ p = 0 ∨ (hg (p - 1) = nI b ∧ b < tb_z op n ∧ ¬ nI h = ps (b + 1)) := by
    rcases hal with z | z | ⟨b, z⟩
    · exact ⟨0, Or.inl z⟩
    · exact ⟨0, Or.inr (Or.inl z)⟩
    · exact ⟨b, Or.inr (Or.inr z)⟩
  refine Or.inl ⟨0, (nI n, 1, fp, pg, ob, nI h, nI t, ix, sz, nI p, nI c, st, kd, pl, wd, tm, dg, dc, ss, pc, op, ox, oy, oz, ps, jp, oi, pa, pt, sh, lc, rc, dr), (nI n, fp, 1, nI p, nI h, nI t, ix, nI c, 0, sz, yj, st, kd, pl, ln, dc, tm, sn, sd, op, ox, oy, oz, sh, ch, oth, lw, hg, le, bk, fm, vy), by decide, ⟨⟨rfl, rfl, rfl, rfl, rfl, rfl, rfl, rfl, rfl, rfl, rfl, rfl, rfl, rfl, rfl, rfl, rfl⟩, rl_of hn hsz ok hA Pg rfl⟩, fun post hp => br_f (nI_nlt (by omega) (by omega)) hp, fun post hp => ⟨2, yr_head hn hp6 Pg.2.2.1 (by decide) hb ?_⟩⟩
  exact br_t rfl (br_f (nI_nlt (by omega) (by omega)) (br_t (by decide) hp))
theorem so_long (hn : n ≤ 48) (hh : h < n) (hp6 : p ≤ 6) (ht : t = 500) (hsz : sz = 0 ∨ sz = 1) (ok : st_ok st) (hA : it_A kd pl wd tm dg dc ss pc ln sn sd) (Pg : rl_P op ox oy oz kd ps jp n) (hal : ag_al yj h p hg ps op n) :
    so_O t (nI n, 1, fp, pg, ob, nI h, nI t, ix, sz, nI p, nI c, st, kd, pl, wd, tm, dg, dc, ss, pc, op, ox, oy, oz, ps, jp, oi, pa, pt, sh, lc, rc, dr) (nI n, fp, 1, nI p, nI h, nI t, ix, nI c, (-1), sz, yj, st, kd, pl, ln, dc, tm, sn, sd, op, ox, oy, oz, sh, ch, oth, lw, hg, le, bk, fm, vy) := by
  obtain ⟨b, hb⟩ : ∃ b, ¬ yj = 0 ∨ p = 0 ∨ (hg (p - 1) = nI b ∧ b < tb_z op n ∧ ¬ nI h = ps (b + 1)) := by
    rcases hal with z | z | ⟨b, z⟩
    · exact ⟨0, Or.inl z⟩
    · exact ⟨0, Or.inr (Or.inl z)⟩
    · exact ⟨b, Or.inr (Or.inr z)⟩
  subst ht
  refine Or.inl ⟨1, (nI n, 1, fp, pg, ob, nI h, nI 500, ix, sz, nI p, nI c, st, kd, pl, wd, tm, dg, dc, ss, pc, op, ox, oy, oz, ps, jp, oi, pa, pt, sh, lc, rc, dr), (nI n, fp, 1, nI p, nI h, nI 500, ix, nI c, 1, sz, yj, st, kd, pl, ln, dc, tm, sn, sd, op, ox, oy, oz, sh, ch, oth, lw, hg, le, bk, fm, vy), by decide, ⟨⟨rfl, rfl, rfl, rfl, rfl, rfl, rfl, rfl, rfl, rfl, rfl, rfl, rfl, rfl, rfl, rfl, rfl⟩, rl_of hn hsz ok hA Pg rfl⟩, fun post hp => br_t (nI_lt hh (by omega)) (br_f (by decide) hp), fun post hp => ⟨2, yr_head hn hp6 Pg.2.2.1 (by decide) hb ?_⟩⟩
  exact br_t rfl (br_t (nI_lt hh (by omega)) (br_t rfl (br_t (by decide) hp)))
end
