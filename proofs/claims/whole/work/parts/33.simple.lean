/-! the calls that change or show one thing; number and text whole -/
theorem it_set {kd pl wd tm dg dc ss pc ln sn sd kd2 pl2 wd2 tm2 dg2 dc2 ss2 pc2 ln2 sn2 sd2 : Nat → Int32} {j : Nat} (hA : it_A kd pl wd tm dg dc ss pc ln sn sd)
    (hne : ∀ i, i ≠ j → (kd2 i = kd i ∧ pl2 i = pl i ∧ wd2 i = wd i ∧ tm2 i = tm i ∧ dg2 i = dg i ∧ dc2 i = dc i ∧ ss2 i = ss i ∧ pc2 i = pc i ∧ ln2 i = ln i ∧ sd2 i = sd i) ∧ ∀ k, k < 8 → sn2 (8 * i + k) = sn (8 * i + k))
    (hnew : ∃ K A W T D B S L, it_R kd2 pl2 wd2 tm2 dg2 dc2 ss2 pc2 ln2 sn2 sd2 j K A W T D B S L) : it_A kd2 pl2 wd2 tm2 dg2 dc2 ss2 pc2 ln2 sn2 sd2 := by
  intro i hi
  by_cases e : i = j
  · subst e
    exact Or.inr hnew
  · obtain ⟨⟨e1, e2, e3, e4, e5, e6, e7, e8, e9, e10⟩, es⟩ := hne i e
    rcases hA i hi with z | ⟨K, A, W, T, D, B, S, L, R⟩
    · exact Or.inl (e1.trans z)
    · refine Or.inr ⟨K, A, W, T, D, B, S, L, ?_⟩
      unfold it_R at R ⊢
      rw [e1, e2, e3, e4, e5, e6, e7, e8, e9, e10]
      obtain ⟨a, b, c, d, q⟩ := R
      refine ⟨a, b, c, d, fun h3 => ?_⟩
      obtain ⟨q1, q2, q3, q4⟩ := q h3
      exact ⟨q1, q2, q3, fun k hk => by rw [es k (by omega)]; exact q4 k hk⟩
theorem iv_number {u : SX} {v : SY} (I : iv_R u v) (v1 v2 v3 v4 v5 v6 : Int32) : wpX_number (fun r u' => wpY_number (fun r' v' => r' = r ∧ iv_R u' v') v v1 v2 v3 v4 (lw_bz v5) v6) u v1 v2 v3 v4 (lw_bz v5) v6 := by
  have I0 := I
  obtain ⟨cn, ck, fp, pg, ob, hr, sp, ix, sz, pf, sc, st, kd, pl, wd, tm, dg, dc, ss, pc, op, ox, oy, oz, ps, jp, oi, pa, pt, sh, lc, rc, dr⟩ := u
  obtain ⟨cn', fp', ck', pf', hr', sp', ix', sc', ye, sz', yj, st', kd', pl', ln, dc', tm', sn, sd, op', ox', oy', oz', sh', ch, oth, lw, hg, le, bk, fm, vy⟩ := v
  obtain ⟨⟨rfl, rfl, rfl, rfl, rfl, rfl, rfl, rfl, rfl, rfl, rfl, rfl, rfl, rfl, rfl, rfl, rfl⟩, ok, hA, ⟨n, hn, rfl, ho, hP⟩, hck, hsz⟩ := I
  obtain ⟨S, hS, eS⟩ : ∃ S, S ≤ 1 ∧ lw_bz v5 = nI S := by
    rcases lw_bz_01 v5 with e | e
    · exact ⟨0, by omega, e⟩
    · exact ⟨1, by omega, e⟩
  rw [eS]
  have uniq : ∀ {j a T D B j' a' T' D' B' : Nat}, gn_N v1 v2 v3 v4 v6 S j a T D B → gn_N v1 v2 v3 v4 v6 S j' a' T' D' B' → j = j' ∧ a = a' ∧ T = T' ∧ D = D' ∧ B = B' := by
    rintro j a T D B j' a' T' D' B' ⟨⟨rfl, a1, rfl, rfl, a2, a3, a4⟩, a5, a6, rfl, a7, rfl⟩ ⟨⟨b1, b2, b3, b4, b5, b6, b7⟩, b8, b9, b10, b11, b12⟩
    exact ⟨(nI_eq (by omega) (by omega)).mp b1, (nI_eq (by omega) (by omega)).mp b3, (nI_eq (by omega) (by omega)).mp b4, (nI_eq (by omega) (by omega)).mp b10, (nI_eq (by omega) (by omega)).mp b12⟩
  refine xn_num hS (fun j a T D B G => ?_) (fun h => ?_)
  · refine yn_num hS (fun j' a' T' D' B' G' => ?_) (fun h => absurd ⟨j, a, T, D, B, G⟩ h)
    obtain ⟨rfl, rfl, rfl, rfl, rfl⟩ := uniq G G'
    obtain ⟨⟨-, hj, -, -, hT1, hT2, hl⟩, hD1, hD2, -, hB, -⟩ := G
    refine ⟨rfl, ⟨rfl, rfl, rfl, rfl, rfl, rfl, rfl, rfl, rfl, rfl, rfl, rfl, rfl, rfl, rfl, rfl, rfl⟩, ok, it_set hA (j := j) (fun i hi => ⟨⟨pk_un hi, pk_un hi, pk_un hi, pk_un hi, pk_un hi, pk_un hi, pk_un hi, pk_un hi, pk_un hi, pk_un hi⟩, fun _ _ => rfl⟩) ⟨1, a, S + D, T, D, B, S, D, ⟨pk_us, pk_us, pk_us, pk_us, pk_us, pk_us, pk_us, pk_us⟩, ⟨by omega, by omega, hT1, hT2, hD1, by omega, by omega, hl, hS, by omega, by omega⟩, fun _ => ⟨rfl, hD2, hB, pk_us⟩, fun w => absurd rfl w, fun w => absurd w (by decide)⟩, ⟨n, hn, rfl, ho, fun w => absurd w (by decide)⟩, Or.inl rfl, hsz⟩
  · exact yn_num hS (fun j' a' T' D' B' G' => absurd ⟨j', a', T', D', B', G'⟩ h) (fun _ => ⟨rfl, I0⟩)
theorem iv_text {u : SX} {v : SY} (I : iv_R u v) (v1 v2 v3 v4 : Int32) : wpX_text (fun r u' => wpY_text (fun r' v' => r' = r ∧ iv_R u' v') v v1 v2 v3 v4) u v1 v2 v3 v4 := by
  have I0 := I
  obtain ⟨cn, ck, fp, pg, ob, hr, sp, ix, sz, pf, sc, st, kd, pl, wd, tm, dg, dc, ss, pc, op, ox, oy, oz, ps, jp, oi, pa, pt, sh, lc, rc, dr⟩ := u
  obtain ⟨cn', fp', ck', pf', hr', sp', ix', sc', ye, sz', yj, st', kd', pl', ln, dc', tm', sn, sd, op', ox', oy', oz', sh', ch, oth, lw, hg, le, bk, fm, vy⟩ := v
  obtain ⟨⟨rfl, rfl, rfl, rfl, rfl, rfl, rfl, rfl, rfl, rfl, rfl, rfl, rfl, rfl, rfl, rfl, rfl⟩, ok, hA, ⟨n, hn, rfl, ho, hP⟩, hck, hsz⟩ := I
  have uniq : ∀ {j a T W j' a' T' W' : Nat}, gn_T v1 v2 v3 v4 j a T W → gn_T v1 v2 v3 v4 j' a' T' W' → j = j' ∧ a = a' ∧ T = T' ∧ W = W' := by
    rintro j a T W j' a' T' W' ⟨⟨rfl, a1, rfl, rfl, a2, a3, a4⟩, a5, a6, rfl⟩ ⟨⟨b1, b2, b3, b4, b5, b6, b7⟩, b8, b9, b10⟩
    exact ⟨(nI_eq (by omega) (by omega)).mp b1, (nI_eq (by omega) (by omega)).mp b3, (nI_eq (by omega) (by omega)).mp b4, (nI_eq (by omega) (by omega)).mp b10⟩
  refine xn_txt (fun j a T W G => ?_) (fun h => ?_)
  · refine yn_txt (fun j' a' T' W' G' => ?_) (fun h => absurd ⟨j, a, T, W, G⟩ h)
    obtain ⟨rfl, rfl, rfl, rfl⟩ := uniq G G'
    obtain ⟨⟨-, hj, -, -, hT1, hT2, hl⟩, hW1, hW2, -⟩ := G
    refine ⟨rfl, ⟨rfl, rfl, rfl, rfl, rfl, rfl, rfl, rfl, rfl, rfl, rfl, rfl, rfl, rfl, rfl, rfl, rfl⟩, ok, it_set hA (j := j) (fun i hi => ⟨⟨pk_un hi, pk_un hi, pk_un hi, pk_un hi, pk_un hi, pk_un hi, pk_un hi, pk_un hi, pk_un hi, rfl⟩, fun _ _ => rfl⟩) ⟨2, a, W, T, 0, 0, 0, W, ⟨pk_us, pk_us, pk_us, pk_us, pk_us, pk_us, pk_us, pk_us⟩, ⟨by omega, by omega, hT1, hT2, hW1, hW2, by omega, hl, by omega, by omega, by omega⟩, fun w => absurd w (by decide), fun _ => rfl, fun w => absurd w (by decide)⟩, ⟨n, hn, rfl, ho, fun w => absurd w (by decide)⟩, Or.inl rfl, hsz⟩
  · exact yn_txt (fun j' a' T' W' G' => absurd ⟨j', a', T', W', G'⟩ h) (fun _ => ⟨rfl, I0⟩)
theorem iv_poke {u : SX} {v : SY} (I : iv_R u v) (v1 v2 : Int32) : wpX_poke (fun r u' => wpY_poke (fun r' v' => r' = r ∧ iv_R u' v') v v1 v2) u v1 v2 := by
  have I0 := I
  obtain ⟨cn, ck, fp, pg, ob, hr, sp, ix, sz, pf, sc, st, kd, pl, wd, tm, dg, dc, ss, pc, op, ox, oy, oz, ps, jp, oi, pa, pt, sh, lc, rc, dr⟩ := u
  obtain ⟨cn', fp', ck', pf', hr', sp', ix', sc', ye, sz', yj, st', kd', pl', ln, dc', tm', sn, sd, op', ox', oy', oz', sh', ch, oth, lw, hg, le, bk, fm, vy⟩ := v
  obtain ⟨⟨rfl, rfl, rfl, rfl, rfl, rfl, rfl, rfl, rfl, rfl, rfl, rfl, rfl, rfl, rfl, rfl, rfl⟩, ok, hA, ⟨n, hn, rfl, ho, hP⟩, hck, hsz⟩ := I
  refine br_c (fun a => ?_) (fun a => br_c (fun b => ?_) (fun b => br_c (fun c => ?_) (fun c => br_c (fun d => ?_) (fun d => ?_))))
  · show wpY_poke _ _ _ _
    unfold wpY_poke
    exact yi_in (fun p q => absurd p (Int32.not_le.mpr a)) (fun _ => br_t rfl ⟨rfl, I0⟩)
  · show wpY_poke _ _ _ _
    unfold wpY_poke
    exact yi_in (fun p q => absurd (Int32.le_trans b q) (by decide)) (fun _ => br_t rfl ⟨rfl, I0⟩)
  · show wpY_poke _ _ _ _
    unfold wpY_poke
    exact yi_in (fun _ _ => br_f (by decide) (yi_in (fun p q => absurd p (Int32.not_le.mpr c)) (fun _ => br_t rfl ⟨rfl, I0⟩))) (fun _ => br_t rfl ⟨rfl, I0⟩)
  · obtain ⟨k, hk, rfl⟩ := nI_of a
    have hk96 : k < 96 := Nat.lt_of_not_le (fun z => b (nI_le (a := 96) z hk))
    obtain ⟨q, hq, rfl⟩ := nI_of c
    have hq42 : q < 42 := (nI_ltI (b := 42) hq (by decide)).mp d
    have v96 : vp_in (nI k) 96 := vp_in_nI hk96 (by decide)
    refine ⟨v96, ?_⟩
    rw [nI_clamp (show k < 2 ^ 31 by omega)]
    refine nm_e ?_
    show wpY_poke _ _ _ _
    unfold wpY_poke
    refine yi_in (fun _ _ => br_f (by decide) (yi_in (fun _ _ => br_f (by decide) ⟨v96, ?_⟩) (fun w => absurd ⟨nI_pos' (by omega), nI_le (b := 41) (by omega) (by decide)⟩ w))) (fun w => absurd ⟨nI_pos' (by omega), nI_le (b := 95) (by omega) (by decide)⟩ w)
    rw [nI_clamp (show k < 2 ^ 31 by omega)]
    exact nm_e ⟨rfl, ⟨rfl, rfl, rfl, rfl, rfl, rfl, rfl, rfl, rfl, rfl, rfl, rfl, rfl, rfl, rfl, rfl, rfl⟩, ed_ok ok (nI_pos (by omega)), hA, ⟨n, hn, rfl, ho, hP⟩, hck, hsz⟩
  · show wpY_poke _ _ _ _
    unfold wpY_poke
    refine yi_in (fun _ _ => br_f (by decide) (yi_in (fun p q => absurd ?_ d) (fun _ => br_t rfl ⟨rfl, I0⟩))) (fun _ => br_t rfl ⟨rfl, I0⟩)
    exact Int32.lt_of_le_of_lt q (by decide)
theorem iv_add {u : SX} {v : SY} (I : iv_R u v) (v1 v2 v3 v4 : Int32) : wpX_add (fun r u' => wpY_add (fun r' v' => r' = r ∧ iv_R u' v') v v1 v2 v3 v4) u v1 v2 v3 v4 := by
  have I0 := I
  obtain ⟨cn, ck, fp, pg, ob, hr, sp, ix, sz, pf, sc, st, kd, pl, wd, tm, dg, dc, ss, pc, op, ox, oy, oz, ps, jp, oi, pa, pt, sh, lc, rc, dr⟩ := u
  obtain ⟨cn', fp', ck', pf', hr', sp', ix', sc', ye, sz', yj, st', kd', pl', ln, dc', tm', sn, sd, op', ox', oy', oz', sh', ch, oth, lw, hg, le, bk, fm, vy⟩ := v
  obtain ⟨⟨rfl, rfl, rfl, rfl, rfl, rfl, rfl, rfl, rfl, rfl, rfl, rfl, rfl, rfl, rfl, rfl, rfl⟩, ok, hA, ⟨n, hn, rfl, ho, hP⟩, hck, hsz⟩ := I
  refine br_c (fun a => ?_) (fun a => br_c (fun b => ?_) (fun b => ?_))
  · show wpY_add _ _ _ _ _ _
    unfold wpY_add
    exact yi_in (fun p q => absurd p (Int32.not_le.mpr a)) (fun _ => br_t rfl ⟨rfl, I0⟩)
  · show wpY_add _ _ _ _ _ _
    unfold wpY_add
    exact yi_in (fun p q => absurd q (Int32.not_le.mpr b)) (fun _ => br_t rfl ⟨rfl, I0⟩)
  · by_cases h48 : n = 48
    · subst h48
      refine br_f (by decide) ?_
      show wpY_add _ _ _ _ _ _
      unfold wpY_add
      exact yi_in (fun _ _ => br_f (by decide) (br_t rfl ⟨rfl, I0⟩)) (fun w => absurd ⟨Int32.not_lt.mp a, Int32.not_lt.mp b⟩ w)
    · have v48 : vp_in (nI n) 48 := vp_in_nI (by omega) (by decide)
      obtain ⟨o, -, ho22, rfl⟩ := (gn_in (p := v1) (lo := 0) (hi := 22) (by decide) (by decide)).mpr ⟨a, b⟩
      refine br_t (nI_lt (b := 48) (by omega) (by decide)) ⟨v48, ?_⟩
      rw [nI_clamp (show n < 2 ^ 31 by omega)]
      refine nm_e ⟨v48, nm_e ⟨v48, nm_e ⟨v48, nm_e (nm_r (nI_1 n) ?_)⟩⟩⟩
      show wpY_add _ _ _ _ _ _
      unfold wpY_add
      refine yi_in (fun _ _ => br_f (by decide) (br_f (fun w => h48 ((nI_eq (b := 48) (by omega) (by decide)).mp w)) ⟨v48, ?_⟩)) (fun w => absurd ⟨Int32.not_lt.mp a, Int32.not_lt.mp b⟩ w)
      rw [nI_clamp (show n < 2 ^ 31 by omega)]
      refine nm_e ⟨v48, nm_e ⟨v48, nm_e ⟨v48, nm_e (nm_r (nI_1 n) ⟨nI_pred n, ⟨rfl, rfl, rfl, rfl, rfl, rfl, rfl, rfl, rfl, rfl, rfl, rfl, rfl, rfl, rfl, rfl, rfl⟩, ok, hA, ⟨n + 1, by omega, rfl, fun k hk => ?_, fun w => absurd w (by decide)⟩, Or.inl rfl, hsz⟩)⟩⟩⟩
      by_cases e : k = n
      · subst e
        exact ⟨o, ho22, pk_us⟩
      · obtain ⟨o', h1, h2⟩ := ho k (by omega)
        exact ⟨o', h1, (pk_un e).trans h2⟩
theorem iv_drop {u : SX} {v : SY} (I : iv_R u v) : wpX_drop (fun r u' => wpY_drop (fun r' v' => r' = r ∧ iv_R u' v') v) u := by
  obtain ⟨cn, ck, fp, pg, ob, hr, sp, ix, sz, pf, sc, st, kd, pl, wd, tm, dg, dc, ss, pc, op, ox, oy, oz, ps, jp, oi, pa, pt, sh, lc, rc, dr⟩ := u
  obtain ⟨cn', fp', ck', pf', hr', sp', ix', sc', ye, sz', yj, st', kd', pl', ln, dc', tm', sn, sd, op', ox', oy', oz', sh', ch, oth, lw, hg, le, bk, fm, vy⟩ := v
  obtain ⟨⟨rfl, rfl, rfl, rfl, rfl, rfl, rfl, rfl, rfl, rfl, rfl, rfl, rfl, rfl, rfl, rfl, rfl⟩, ok, hA, ⟨n, hn, rfl, ho, hP⟩, hck, hsz⟩ := I
  exact ⟨rfl, ⟨rfl, rfl, rfl, rfl, rfl, rfl, rfl, rfl, rfl, rfl, rfl, rfl, rfl, rfl, rfl, rfl, rfl⟩, ok, hA, ⟨0, by omega, rfl, fun k hk => absurd hk (by omega), fun w => absurd w (by decide)⟩, Or.inl rfl, hsz⟩
theorem iv_place {u : SX} {v : SY} (I : iv_R u v) : wpX_place (fun r => wpY_place (fun r' => r' = r ∧ iv_R u v) v) u := by
  have I0 := I
  obtain ⟨cn, ck, fp, pg, ob, hr, sp, ix, sz, pf, sc, st, kd, pl, wd, tm, dg, dc, ss, pc, op, ox, oy, oz, ps, jp, oi, pa, pt, sh, lc, rc, dr⟩ := u
  obtain ⟨cn', fp', ck', pf', hr', sp', ix', sc', ye, sz', yj, st', kd', pl', ln, dc', tm', sn, sd, op', ox', oy', oz', sh', ch, oth, lw, hg, le, bk, fm, vy⟩ := v
  obtain ⟨⟨rfl, rfl, rfl, rfl, rfl, rfl, rfl, rfl, rfl, rfl, rfl, rfl, rfl, rfl, rfl, rfl, rfl⟩, ok, hA, ⟨n, hn, rfl, ho, hP⟩, hck, hsz⟩ := I
  exact ⟨rfl, I0⟩
theorem iv_steps {u : SX} {v : SY} (I : iv_R u v) : wpX_steps (fun r => wpY_steps (fun r' => r' = r ∧ iv_R u v) v) u := by
  have I0 := I
  obtain ⟨cn, ck, fp, pg, ob, hr, sp, ix, sz, pf, sc, st, kd, pl, wd, tm, dg, dc, ss, pc, op, ox, oy, oz, ps, jp, oi, pa, pt, sh, lc, rc, dr⟩ := u
  obtain ⟨cn', fp', ck', pf', hr', sp', ix', sc', ye, sz', yj, st', kd', pl', ln, dc', tm', sn, sd, op', ox', oy', oz', sh', ch, oth, lw, hg, le, bk, fm, vy⟩ := v
  obtain ⟨⟨rfl, rfl, rfl, rfl, rfl, rfl, rfl, rfl, rfl, rfl, rfl, rfl, rfl, rfl, rfl, rfl, rfl⟩, ok, hA, ⟨n, hn, rfl, ho, hP⟩, hck, hsz⟩ := I
  exact ⟨rfl, I0⟩
theorem iv_index {u : SX} {v : SY} (I : iv_R u v) : wpX_index (fun r => wpY_index (fun r' => r' = r ∧ iv_R u v) v) u := by
  have I0 := I
  obtain ⟨cn, ck, fp, pg, ob, hr, sp, ix, sz, pf, sc, st, kd, pl, wd, tm, dg, dc, ss, pc, op, ox, oy, oz, ps, jp, oi, pa, pt, sh, lc, rc, dr⟩ := u
  obtain ⟨cn', fp', ck', pf', hr', sp', ix', sc', ye, sz', yj, st', kd', pl', ln, dc', tm', sn, sd, op', ox', oy', oz', sh', ch, oth, lw, hg, le, bk, fm, vy⟩ := v
  obtain ⟨⟨rfl, rfl, rfl, rfl, rfl, rfl, rfl, rfl, rfl, rfl, rfl, rfl, rfl, rfl, rfl, rfl, rfl⟩, ok, hA, ⟨n, hn, rfl, ho, hP⟩, hck, hsz⟩ := I
  exact ⟨rfl, I0⟩
theorem iv_displayed {u : SX} {v : SY} (I : iv_R u v) : wpX_displayed (fun r => wpY_displayed (fun r' => r' = r ∧ iv_R u v) v) u := by
  have I0 := I
  obtain ⟨cn, ck, fp, pg, ob, hr, sp, ix, sz, pf, sc, st, kd, pl, wd, tm, dg, dc, ss, pc, op, ox, oy, oz, ps, jp, oi, pa, pt, sh, lc, rc, dr⟩ := u
  obtain ⟨cn', fp', ck', pf', hr', sp', ix', sc', ye, sz', yj, st', kd', pl', ln, dc', tm', sn, sd, op', ox', oy', oz', sh', ch, oth, lw, hg, le, bk, fm, vy⟩ := v
  obtain ⟨⟨rfl, rfl, rfl, rfl, rfl, rfl, rfl, rfl, rfl, rfl, rfl, rfl, rfl, rfl, rfl, rfl, rfl⟩, ok, hA, ⟨n, hn, rfl, ho, hP⟩, hck, hsz⟩ := I
  exact ⟨rfl, I0⟩
theorem iv_size {u : SX} {v : SY} (I : iv_R u v) : wpX_size (fun r => wpY_size (fun r' => r' = r ∧ iv_R u v) v) u := by
  have I0 := I
  obtain ⟨cn, ck, fp, pg, ob, hr, sp, ix, sz, pf, sc, st, kd, pl, wd, tm, dg, dc, ss, pc, op, ox, oy, oz, ps, jp, oi, pa, pt, sh, lc, rc, dr⟩ := u
  obtain ⟨cn', fp', ck', pf', hr', sp', ix', sc', ye, sz', yj, st', kd', pl', ln, dc', tm', sn, sd, op', ox', oy', oz', sh', ch, oth, lw, hg, le, bk, fm, vy⟩ := v
  obtain ⟨⟨rfl, rfl, rfl, rfl, rfl, rfl, rfl, rfl, rfl, rfl, rfl, rfl, rfl, rfl, rfl, rfl, rfl⟩, ok, hA, ⟨n, hn, rfl, ho, hP⟩, hck, hsz⟩ := I
  rcases hsz with rfl | rfl
  · exact ⟨nb_0, nb_0, rfl, I0⟩
  · exact ⟨nb_1, nb_1, rfl, I0⟩
theorem iv_peek {u : SX} {v : SY} (I : iv_R u v) (v1 : Int32) : wpX_peek (fun r => wpY_peek (fun r' => r' = r ∧ iv_R u v) v v1) u v1 := by
  have I0 := I
  obtain ⟨cn, ck, fp, pg, ob, hr, sp, ix, sz, pf, sc, st, kd, pl, wd, tm, dg, dc, ss, pc, op, ox, oy, oz, ps, jp, oi, pa, pt, sh, lc, rc, dr⟩ := u
  obtain ⟨cn', fp', ck', pf', hr', sp', ix', sc', ye, sz', yj, st', kd', pl', ln, dc', tm', sn, sd, op', ox', oy', oz', sh', ch, oth, lw, hg, le, bk, fm, vy⟩ := v
  obtain ⟨⟨rfl, rfl, rfl, rfl, rfl, rfl, rfl, rfl, rfl, rfl, rfl, rfl, rfl, rfl, rfl, rfl, rfl⟩, ok, hA, ⟨n, hn, rfl, ho, hP⟩, hck, hsz⟩ := I
  refine br_c (fun a => ?_) (fun a => br_c (fun b => ?_) (fun b => ?_))
  · show wpY_peek _ _ _
    unfold wpY_peek
    exact yi_in (fun p q => absurd p (Int32.not_le.mpr a)) (fun _ => br_t rfl ⟨rfl, I0⟩)
  · obtain ⟨k, hk, rfl⟩ := nI_of a
    have hk96 : k < 96 := (nI_ltI (b := 96) hk (by decide)).mp b
    have v96 : vp_in (nI k) 96 := vp_in_nI hk96 (by decide)
    refine ⟨v96, ?_⟩
    show wpY_peek _ _ _
    unfold wpY_peek
    exact yi_in (fun _ _ => br_f (by decide) ⟨v96, rfl, I0⟩) (fun w => absurd ⟨nI_pos' (by omega), nI_le (b := 95) (by omega) (by decide)⟩ w)
  · show wpY_peek _ _ _
    unfold wpY_peek
    refine yi_in (fun p q => absurd ?_ b) (fun _ => br_t rfl ⟨rfl, I0⟩)
    exact Int32.lt_of_le_of_lt q (by decide)
