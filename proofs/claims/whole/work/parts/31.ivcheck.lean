/-! check whole -/
theorem iv_check {u : SX} {v : SY} (I : iv_R u v) : wpX_check (fun r u' => wpY_check (fun r' v' => r' = r ∧ iv_R u' v') v) u := by
  obtain ⟨cn, ck, fp, pg, ob, hr, sp, ix, sz, pf, sc, st, kd, pl, wd, tm, dg, dc, ss, pc, op, ox, oy, oz, ps, jp, oi, pa, pt, sh, lc, rc, dr⟩ := u
  obtain ⟨cn', fp', ck', pf', hr', sp', ix', sc', ye, sz', yj, st', kd', pl', ln, dc', tm', sn, sd, op', ox', oy', oz', sh', ch, oth, lw, hg, le, bk, fm, vy⟩ := v
  obtain ⟨⟨rfl, rfl, rfl, rfl, rfl, rfl, rfl, rfl, rfl, rfl, rfl, rfl, rfl, rfl, rfl, rfl, rfl⟩, ok, hA, ⟨n, hn, rfl, ho, hP⟩, hck, hsz⟩ := I
  have R0 : ∀ ps0 jp0, rl_R (nI n) 0 sz' st' kd' pl' wd tm' dg dc' ss pc ln sn sd op' ox' oy' oz' ps0 jp0 := fun ps0 jp0 => ⟨ok, hA, ⟨n, hn, rfl, ho, fun w => absurd w (by decide)⟩, Or.inl rfl, hsz⟩
  unfold wpX_check
  by_cases h0 : n = 0
  · subst h0
    refine br_t rfl (br_f (by decide) ?_)
    show wpY_check _ _
    unfold wpY_check
    exact br_t rfl (br_t (by decide) ⟨rfl, ⟨rfl, rfl, rfl, rfl, rfl, rfl, rfl, rfl, rfl, rfl, rfl, rfl, rfl, rfl, rfl, rfl, rfl⟩, R0 _ _⟩)
  · have hn0 : ¬ nI n = 0 := nI_ne0 (by omega) (by omega)
    by_cases h1 : op' 0 = 0
    · refine br_f hn0 (br_t h1 (xb_find hn (fun ps' hps => ?_)))
      obtain ⟨r, ob', oi', jp', hr1, hX, hY⟩ := ck_loop (ck := ck') (fp := fp') (hr := hr) (sp := sp') (ix := ix') (sz := sz') (pf := pf) (sc := sc') (ye := ye) (yj := yj) (st := st') (kd := kd') (pl := pl') (wd := wd) (tm := tm') (dg := dg) (dc := dc') (ss := ss) (pc := pc) (op := op') (ox := ox') (oy := oy') (oz := oz') (ps := ps') (pa := pa) (pt := pt) (sh := sh') (lc := lc) (rc := rc) (dr := dr) (ln := ln) (sn := sn) (sd := sd) (ch := ch) (oth := oth) (lw := lw) (hg := hg) (le := le) (bk := bk) (fm := fm) (vy := vy) (pf2 := pf') (hr2 := hr') (np := tb_z op' n) hA hn ho rfl n 0 0 0 oi jp (by omega) (by omega) (ck_S0 _ _) (ck_J0 _ _ _) (fun t b ht => absurd ht (by omega))
      refine ⟨n + 1, hX _ ?_⟩
      rcases hr1 with ⟨e, hj, hf⟩ | ⟨k, hk, e⟩
      · subst e
        refine br_t rfl ?_
        show wpY_check _ _
        unfold wpY_check
        refine br_f hn0 (br_t h1 ⟨n + 1, hY _ (br_f (by decide) ⟨rfl, ⟨rfl, rfl, rfl, rfl, rfl, rfl, rfl, rfl, rfl, rfl, rfl, rfl, rfl, rfl, rfl, rfl, rfl⟩, ok, hA, ⟨n, hn, rfl, ho, fun _ => ?_⟩, Or.inr rfl, hsz⟩)⟩)
        exact ⟨by omega, h1, hps, fun i hi => hf i (by omega) hi, hj⟩
      · subst e
        have hne : ¬ nI k = -1 := by
          intro w
          have : ¬ (-1 : Int32) < 0 := by rw [← w]; exact nI_pos (by omega)
          exact this (by decide)
        refine br_f hne ?_
        show wpY_check _ _
        unfold wpY_check
        exact br_f hn0 (br_t h1 ⟨n + 1, hY _ (br_t (nI_pos' (by omega)) ⟨rfl, ⟨rfl, rfl, rfl, rfl, rfl, rfl, rfl, rfl, rfl, rfl, rfl, rfl, rfl, rfl, rfl, rfl, rfl⟩, R0 _ _⟩)⟩)
    · refine br_f hn0 (br_f h1 (br_f (by decide) ?_))
      show wpY_check _ _
      unfold wpY_check
      exact br_f hn0 (br_f h1 (br_t (by decide) ⟨rfl, ⟨rfl, rfl, rfl, rfl, rfl, rfl, rfl, rfl, rfl, rfl, rfl, rfl, rfl, rfl, rfl, rfl, rfl⟩, R0 _ _⟩))
