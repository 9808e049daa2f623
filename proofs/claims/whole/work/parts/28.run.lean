/-! a run whole -/
theorem ft_x {kd : Nat → Int32} {np o : Nat} {x y z : Int32} (h : ft_G kd np o x y z) (ho : o ≤ 22) (hc : 1 ≤ ms_c o) : x = 16 ∨ ft_i kd x := by
  obtain ⟨h1, h2, h3, h4, -, -, h7, h8, h9⟩ := h
  rcases (show o = 0 ∨ o = 1 ∨ o = 2 ∨ o = 3 ∨ o = 4 ∨ o = 5 ∨ o = 6 ∨ o = 7 ∨ o = 8 ∨ o = 9 ∨ o = 10 ∨ o = 11 ∨ o = 12 ∨ o = 13 ∨ o = 14 ∨ o = 15 ∨ o = 16 ∨ o = 17 ∨ o = 18 ∨ o = 19 ∨ o = 20 ∨ o = 21 ∨ o = 22 by omega) with e | e | e | e | e | e | e | e | e | e | e | e | e | e | e | e | e | e | e | e | e | e | e <;> subst e
  · exact absurd hc (by decide)
  · exact (h1 rfl).1
  · exact (h2 (by decide) (by decide)).1.imp id (fs_i (by decide))
  · exact (h2 (by decide) (by decide)).1.imp id (fs_i (by decide))
  · exact (h2 (by decide) (by decide)).1.imp id (fs_i (by decide))
  · exact (h2 (by decide) (by decide)).1.imp id (fs_i (by decide))
  · exact (h2 (by decide) (by decide)).1.imp id (fs_i (by decide))
  · exact (h2 (by decide) (by decide)).1.imp id (fs_i (by decide))
  · exact (h2 (by decide) (by decide)).1.imp id (fs_i (by decide))
  · exact (h2 (by decide) (by decide)).1.imp id (fs_i (by decide))
  · exact Or.inr (fc_i (h3 rfl).1)
  · exact absurd hc (by decide)
  · exact Or.inr (fc_i (h4 rfl))
  · exact absurd hc (by decide)
  · exact absurd hc (by decide)
  · exact absurd hc (by decide)
  · exact absurd hc (by decide)
  · exact absurd hc (by decide)
  · exact absurd hc (by decide)
  · exact h7 rfl
  · exact (h8 rfl).imp id (fs_i (by decide))
  · exact absurd hc (by decide)
  · exact Or.inr (h9 rfl).1
theorem ft_y {kd : Nat → Int32} {np o : Nat} {x y z : Int32} (h : ft_G kd np o x y z) (ho : o ≤ 22) (hc : ms_c o = 2) : ft_i kd y := by
  obtain ⟨h1, h2, h3, -, -, -, -, -, h9⟩ := h
  rcases (show o = 0 ∨ o = 1 ∨ o = 2 ∨ o = 3 ∨ o = 4 ∨ o = 5 ∨ o = 6 ∨ o = 7 ∨ o = 8 ∨ o = 9 ∨ o = 10 ∨ o = 11 ∨ o = 12 ∨ o = 13 ∨ o = 14 ∨ o = 15 ∨ o = 16 ∨ o = 17 ∨ o = 18 ∨ o = 19 ∨ o = 20 ∨ o = 21 ∨ o = 22 by omega) with e | e | e | e | e | e | e | e | e | e | e | e | e | e | e | e | e | e | e | e | e | e | e <;> subst e
  · exact absurd hc (by decide)
  · exact (h1 rfl).2
  · exact fs_i (by decide) (h2 (by decide) (by decide)).2
  · exact fs_i (by decide) (h2 (by decide) (by decide)).2
  · exact fs_i (by decide) (h2 (by decide) (by decide)).2
  · exact fs_i (by decide) (h2 (by decide) (by decide)).2
  · exact fs_i (by decide) (h2 (by decide) (by decide)).2
  · exact fs_i (by decide) (h2 (by decide) (by decide)).2
  · exact fs_i (by decide) (h2 (by decide) (by decide)).2
  · exact fs_i (by decide) (h2 (by decide) (by decide)).2
  · exact fc_i (h3 rfl).2.1
  · exact absurd hc (by decide)
  · exact absurd hc (by decide)
  · exact absurd hc (by decide)
  · exact absurd hc (by decide)
  · exact absurd hc (by decide)
  · exact absurd hc (by decide)
  · exact absurd hc (by decide)
  · exact absurd hc (by decide)
  · exact absurd hc (by decide)
  · exact absurd hc (by decide)
  · exact absurd hc (by decide)
  · exact fs_i (by decide) (h9 rfl).2
theorem so_all {t : Nat} {u : SX} {v : SY} (H : rr_R t u v) : so_O t u v := by
  obtain ⟨cn, ck, fp, pg, ob, hr, sp, ix, sz, pf, sc, st, kd, pl, wd, tm, dg, dc, ss, pc, op, ox, oy, oz, ps, jp, oi, pa, pt, sh, lc, rc, dr⟩ := u
  obtain ⟨cn', fp', ck', pf', hr', sp', ix', sc', ye, sz', yj, st', kd', pl', ln, dc', tm', sn, sd, op', ox', oy', oz', sh', ch, oth, lw, hg, le, bk, fm, vy⟩ := v
  obtain ⟨⟨rfl, rfl, rfl, rfl, rfl, rfl, rfl, rfl, rfl, rfl, rfl, rfl, rfl, rfl, rfl, rfl, rfl⟩, ⟨rfl, rfl⟩, n, h, p, c, ⟨rfl, rfl, rfl, rfl, rfl, rfl, rfl⟩, hn, hh, hp6, ht, hc, hsz, hyj, ok, hA, Pg, hF, hal⟩ := H
  by_cases h1 : h = n
  · exact so_end hn h1 hp6 hsz ok hA Pg hal
  · by_cases h2 : t = 500
    · exact so_long hn (by omega) hp6 h2 hsz ok hA Pg hal
    · obtain ⟨o, ho, eo, hft⟩ := Pg.2.2.2.1 h (by omega)
      by_cases hb : ms_B ix' kd' tm' o (ox' h) (oy' h)
      · exact so_range ho hn (by omega) hp6 (by omega) hsz ok hA Pg hal eo rfl rfl rfl (ft_x hft ho) (ft_y hft ho) hb
      · have K : ∀ o' : Nat, o = o' → sh_H n h p c t o' ix' sz' yj (ox' h) (oy' h) (oz' h) st' kd' pl' wd tm' dg dc' ss pc ln sn sd op' ox' oy' oz' ps jp pa pt lw hg le bk fm vy := by
          rintro o' rfl
          exact ⟨hn, by omega, hp6, by omega, hc, hsz, ok, hA, Pg, hF, hal, ⟨eo, rfl, rfl, rfl⟩, hft, hb⟩
        rcases (show o = 0 ∨ o = 1 ∨ o = 2 ∨ o = 3 ∨ o = 4 ∨ o = 5 ∨ o = 6 ∨ o = 7 ∨ o = 8 ∨ o = 9 ∨ o = 10 ∨ o = 11 ∨ o = 12 ∨ o = 13 ∨ o = 14 ∨ o = 15 ∨ o = 16 ∨ o = 17 ∨ o = 18 ∨ o = 19 ∨ o = 20 ∨ o = 21 ∨ o = 22 by omega) with e | e | e | e | e | e | e | e | e | e | e | e | e | e | e | e | e | e | e | e | e | e | e
        · exact so_0 (K 0 e)
        · exact so_1 (K 1 e)
        · exact so_2 (K 2 e)
        · exact so_3 (K 3 e)
        · exact so_4 (K 4 e)
        · exact so_5 (K 5 e)
        · exact so_6 (K 6 e)
        · exact so_7 (K 7 e)
        · exact so_8 (K 8 e)
        · exact so_9 (K 9 e)
        · exact so_10 (K 10 e)
        · exact so_11 (K 11 e)
        · exact so_12 (K 12 e)
        · exact so_13 (K 13 e)
        · exact so_14 (K 14 e)
        · exact so_15 (K 15 e)
        · exact so_16 (K 16 e)
        · exact so_17 (K 17 e)
        · exact so_18 (K 18 e)
        · exact so_19 (K 19 e)
        · exact so_20 (K 20 e)
        · exact so_21 (K 21 e)
        · exact so_22 (K 22 e)
def xr_W (post : Int32 → SX → Prop) (m : Nat) (x1 x2 : Int32) (u : SX) : Prop := match u with
  | (cn, ck, fp, pg, ob, hr, sp, ix, sz, pf, sc, st, kd, pl, wd, tm, dg, dc, ss, pc, op, ox, oy, oz, ps, jp, oi, pa, pt, sh, lc, rc, dr) => wX_run_44 post m x1 x2 cn ck fp pg ob hr sp ix sz pf sc st kd pl wd tm dg dc ss pc op ox oy oz ps jp oi pa pt sh lc rc dr
theorem rr_t {t : Nat} {u : SX} {v : SY} (H : rr_R t u v) : t ≤ 500 := by
  obtain ⟨cn, ck, fp, pg, ob, hr, sp, ix, sz, pf, sc, st, kd, pl, wd, tm, dg, dc, ss, pc, op, ox, oy, oz, ps, jp, oi, pa, pt, sh, lc, rc, dr⟩ := u
  obtain ⟨cn', fp', ck', pf', hr', sp', ix', sc', ye, sz', yj, st', kd', pl', ln, dc', tm', sn, sd, op', ox', oy', oz', sh', ch, oth, lw, hg, le, bk, fm, vy⟩ := v
  obtain ⟨-, -, n, h, p, c, -, -, -, -, ht, -⟩ := H
  exact ht
theorem xr_sim : ∀ (d t : Nat) (u : SX) (v : SY), t + d = 500 → rr_R t u v → ∀ postX : Int32 → SX → Prop, (∀ r u' v', iv_R u' v' → (∀ postY, postY r v' → ∃ m, yr_W postY m v) → postX r u') → xr_W postX (d + 2) (-2) (nI t) u
  | 0, t, u, v, hd, H, postX, K => by
    have hso := so_all H
    obtain ⟨cn, ck, fp, pg, ob, hr, sp, ix, sz, pf, sc, st, kd, pl, wd, tm, dg, dc, ss, pc, op, ox, oy, oz, ps, jp, oi, pa, pt, sh, lc, rc, dr⟩ := u
    refine br_f (nI_nlt (a := 500) (b := t) (by omega) (by decide)) (br_t rfl ?_)
    rcases hso with ⟨r, u', v', hne, hI, hX, hY⟩ | ⟨u', v', hR, hX, hY⟩
    · refine hX _ ?_
      obtain ⟨cn, ck, fp, pg, ob, hr, sp, ix, sz, pf, sc, st, kd, pl, wd, tm, dg, dc, ss, pc, op, ox, oy, oz, ps, jp, oi, pa, pt, sh, lc, rc, dr⟩ := u'
      exact nm_r (nI_1 t) (br_c (fun _ => K r _ v' hI hY) (fun _ => br_f hne (K r _ v' hI hY)))
    · have := rr_t hR
      omega
  | d + 1, t, u, v, hd, H, postX, K => by
    have hso := so_all H
    obtain ⟨cn, ck, fp, pg, ob, hr, sp, ix, sz, pf, sc, st, kd, pl, wd, tm, dg, dc, ss, pc, op, ox, oy, oz, ps, jp, oi, pa, pt, sh, lc, rc, dr⟩ := u
    refine br_f (nI_nlt (a := 500) (b := t) (by omega) (by decide)) (br_t rfl ?_)
    rcases hso with ⟨r, u', v', hne, hI, hX, hY⟩ | ⟨u', v', hR, hX, hY⟩
    · refine hX _ ?_
      obtain ⟨cn, ck, fp, pg, ob, hr, sp, ix, sz, pf, sc, st, kd, pl, wd, tm, dg, dc, ss, pc, op, ox, oy, oz, ps, jp, oi, pa, pt, sh, lc, rc, dr⟩ := u'
      exact nm_r (nI_1 t) (br_c (fun _ => K r _ v' hI hY) (fun _ => br_f hne (K r _ v' hI hY)))
    · refine hX _ ?_
      have sim := xr_sim d (t + 1) u' v' (by omega) hR postX (fun r u'' v'' a b => K r u'' v'' a (fun postY hp => hY postY (b postY hp)))
      obtain ⟨cn, ck, fp, pg, ob, hr, sp, ix, sz, pf, sc, st, kd, pl, wd, tm, dg, dc, ss, pc, op, ox, oy, oz, ps, jp, oi, pa, pt, sh, lc, rc, dr⟩ := u'
      exact nm_r (nI_1 t) sim
theorem iv_run {u : SX} {v : SY} (I : iv_R u v) : wpX_run (fun r u' => wpY_run (fun r' v' => r' = r ∧ iv_R u' v') v) u := by
  have I0 := I
  obtain ⟨cn, ck, fp, pg, ob, hr, sp, ix, sz, pf, sc, st, kd, pl, wd, tm, dg, dc, ss, pc, op, ox, oy, oz, ps, jp, oi, pa, pt, sh, lc, rc, dr⟩ := u
  obtain ⟨cn', fp', ck', pf', hr', sp', ix', sc', ye, sz', yj, st', kd', pl', ln, dc', tm', sn, sd, op', ox', oy', oz', sh', ch, oth, lw, hg, le, bk, fm, vy⟩ := v
  obtain ⟨⟨rfl, rfl, rfl, rfl, rfl, rfl, rfl, rfl, rfl, rfl, rfl, rfl, rfl, rfl, rfl, rfl, rfl⟩, ok, hA, ⟨n, hn, rfl, ho, hP⟩, hck, hsz⟩ := I
  rcases hck with rfl | rfl
  · exact br_t rfl (br_t rfl ⟨rfl, I0⟩)
  · have Pg := hP rfl
    refine br_f (by decide) ⟨502, ?_⟩
    have sim := xr_sim 500 0 (nI n, 1, fp', pg, ob, nI 0, nI 0, 1, 0, nI 0, nI 0, st', kd', pl', wd, tm', dg, dc', ss, pc, op', ox', oy', oz', ps, jp, oi, pa, pt, sh', lc, rc, dr) (nI n, fp', 1, nI 0, nI 0, nI 0, 1, nI 0, (-1), 0, 1, st', kd', pl', ln, dc', tm', sn, sd, op', ox', oy', oz', sh', ch, oth, lw, hg, le, bk, fm, vy) (by omega) ⟨⟨rfl, rfl, rfl, rfl, rfl, rfl, rfl, rfl, rfl, rfl, rfl, rfl, rfl, rfl, rfl, rfl, rfl⟩, ⟨rfl, rfl⟩, n, 0, 0, 0, ⟨rfl, rfl, rfl, rfl, rfl, rfl, rfl⟩, hn, by omega, by omega, by omega, by omega, Or.inl rfl, Or.inr rfl, ok, hA, Pg, rn_0, Or.inl (by decide)⟩ (fun r u' => wpY_run (fun r' v' => r' = r ∧ iv_R u' v') (nI n, fp', 1, pf', hr', sp', ix', sc', ye, sz', yj, st', kd', pl', ln, dc', tm', sn, sd, op', ox', oy', oz', sh', ch, oth, lw, hg, le, bk, fm, vy)) (fun r u' v' hI hY => br_f (by decide) (hY _ ⟨rfl, hI⟩))
    unfold xr_W at sim
    exact sim
