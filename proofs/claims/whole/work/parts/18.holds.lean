/-! the six relations and what holds -/
section
variable {cn ck fp pg ob hr sp ix sz pf sc ye yj : Int32}
variable {st kd pl wd tm dg dc ss pc op ox oy oz ps jp oi pa pt sh lc rc dr ln sn sd ch oth lw hg le bk fm vy : Nat → Int32}
variable {K A W T D B S L e j F M m has N n c : Nat} {s : Bool} {V : Int} {x z : Int32} {d : Nat}
theorem rl_pair {q : Nat} {r : Int32} (hq : q ≤ 5) (hr1 : r = 0 ∨ r = 1 ∨ r = -1) : ∃ t : Int32, (t = 0 ∨ t = 1) ∧ (∀ post, post t (cn, ck, fp, pg, ob, hr, sp, ix, sz, pf, sc, st, kd, pl, wd, tm, dg, dc, ss, pc, op, ox, oy, oz, ps, jp, oi, pa, pt, sh, lc, rc, dr) → wX_holds_56 post (nI q) r cn ck fp pg ob hr sp ix sz pf sc st kd pl wd tm dg dc ss pc op ox oy oz ps jp oi pa pt sh lc rc dr) ∧ (∀ post, post t (cn, fp, ck, pf, hr, sp, ix, sc, ye, sz, yj, st, kd, pl, ln, dc, tm, sn, sd, op, ox, oy, oz, sh, ch, oth, lw, hg, le, bk, fm, vy) → wY_relates_35 post (nI q) r cn fp ck pf hr sp ix sc ye sz yj st kd pl ln dc tm sn sd op ox oy oz sh ch oth lw hg le bk fm vy) := by
  rcases (show q = 0 ∨ q = 1 ∨ q = 2 ∨ q = 3 ∨ q = 4 ∨ q = 5 by omega) with h | h | h | h | h | h <;> subst h <;> rcases hr1 with h | h | h <;> subst h
  · exact ⟨0, Or.inl rfl, fun post hp => br_f (by decide) (br_f (by decide) (br_t (by decide) (br_t (by decide) (hp)))), fun post hp => ⟨by decide, br_t (by decide) (br_t (by decide) (br_f (by decide) (br_f (by decide) (⟨nb_0, hp⟩))))⟩⟩
  · exact ⟨0, Or.inl rfl, fun post hp => br_f (by decide) (br_f (by decide) (br_t (by decide) (br_t (by decide) (hp)))), fun post hp => ⟨by decide, br_t (by decide) (br_t (by decide) (br_f (by decide) (br_f (by decide) (⟨nb_0, hp⟩))))⟩⟩
  · exact ⟨1, Or.inr rfl, fun post hp => br_f (by decide) (br_f (by decide) (br_t (by decide) (br_f (by decide) (hp)))), fun post hp => ⟨by decide, br_t (by decide) (br_f (by decide) (br_f (by decide) (br_f (by decide) (⟨nb_1, hp⟩))))⟩⟩
  · exact ⟨1, Or.inr rfl, fun post hp => br_f (by decide) (br_f (by decide) (br_f (by decide) (br_t (by decide) (br_t (by decide) (hp))))), fun post hp => ⟨by decide, br_f (by decide) (⟨by decide, br_t (by decide) (br_t (by decide) (br_f (by decide) (br_f (by decide) (⟨nb_1, hp⟩))))⟩)⟩⟩
  · exact ⟨0, Or.inl rfl, fun post hp => br_f (by decide) (br_f (by decide) (br_f (by decide) (br_t (by decide) (br_f (by decide) (hp))))), fun post hp => ⟨by decide, br_f (by decide) (⟨by decide, br_t (by decide) (br_f (by decide) (br_f (by decide) (br_f (by decide) (⟨nb_0, hp⟩))))⟩)⟩⟩
  · exact ⟨0, Or.inl rfl, fun post hp => br_f (by decide) (br_f (by decide) (br_f (by decide) (br_t (by decide) (br_f (by decide) (hp))))), fun post hp => ⟨by decide, br_f (by decide) (⟨by decide, br_t (by decide) (br_f (by decide) (br_f (by decide) (br_f (by decide) (⟨nb_0, hp⟩))))⟩)⟩⟩
  · exact ⟨0, Or.inl rfl, fun post hp => br_f (by decide) (br_f (by decide) (br_f (by decide) (br_f (by decide) (br_t (by decide) (br_t (by decide) (hp)))))), fun post hp => ⟨by decide, br_f (by decide) (⟨by decide, br_f (by decide) (br_t (by decide) (br_f (by decide) (br_f (by decide) (⟨nb_0, hp⟩))))⟩)⟩⟩
  · exact ⟨1, Or.inr rfl, fun post hp => br_f (by decide) (br_f (by decide) (br_f (by decide) (br_f (by decide) (br_t (by decide) (br_f (by decide) (hp)))))), fun post hp => ⟨by decide, br_f (by decide) (⟨by decide, br_f (by decide) (br_f (by decide) (br_f (by decide) (br_f (by decide) (⟨nb_1, hp⟩))))⟩)⟩⟩
  · exact ⟨0, Or.inl rfl, fun post hp => br_f (by decide) (br_f (by decide) (br_f (by decide) (br_f (by decide) (br_t (by decide) (br_t (by decide) (hp)))))), fun post hp => ⟨by decide, br_f (by decide) (⟨by decide, br_f (by decide) (br_t (by decide) (br_f (by decide) (br_f (by decide) (⟨nb_0, hp⟩))))⟩)⟩⟩
  · exact ⟨1, Or.inr rfl, fun post hp => br_f (by decide) (br_f (by decide) (br_f (by decide) (br_f (by decide) (br_f (by decide) (br_t (by decide) (br_f (by decide) (hp))))))), fun post hp => ⟨by decide, br_t (by decide) (br_t (by decide) (br_t (by decide) (br_f (by decide) (hp))))⟩⟩
  · exact ⟨0, Or.inl rfl, fun post hp => br_f (by decide) (br_f (by decide) (br_f (by decide) (br_f (by decide) (br_f (by decide) (br_t (by decide) (br_t (by decide) (hp))))))), fun post hp => ⟨by decide, br_t (by decide) (br_t (by decide) (br_t (by decide) (br_t (by decide) (hp))))⟩⟩
  · exact ⟨1, Or.inr rfl, fun post hp => br_f (by decide) (br_f (by decide) (br_f (by decide) (br_f (by decide) (br_f (by decide) (br_t (by decide) (br_f (by decide) (hp))))))), fun post hp => ⟨by decide, br_t (by decide) (br_f (by decide) (br_t (by decide) (br_f (by decide) (hp))))⟩⟩
  · exact ⟨0, Or.inl rfl, fun post hp => br_f (by decide) (br_f (by decide) (br_f (by decide) (br_f (by decide) (br_f (by decide) (br_f (by decide) (br_t (by decide) (br_t (by decide) (hp)))))))), fun post hp => ⟨by decide, br_f (by decide) (⟨by decide, br_t (by decide) (br_t (by decide) (br_f (by decide) (br_t (by decide) (br_t (by decide) (br_t (by decide) (hp))))))⟩)⟩⟩
  · exact ⟨1, Or.inr rfl, fun post hp => br_f (by decide) (br_f (by decide) (br_f (by decide) (br_f (by decide) (br_f (by decide) (br_f (by decide) (br_t (by decide) (br_f (by decide) (hp)))))))), fun post hp => ⟨by decide, br_f (by decide) (⟨by decide, br_t (by decide) (br_f (by decide) (br_f (by decide) (br_t (by decide) (br_t (by decide) (br_f (by decide) (hp))))))⟩)⟩⟩
  · exact ⟨1, Or.inr rfl, fun post hp => br_f (by decide) (br_f (by decide) (br_f (by decide) (br_f (by decide) (br_f (by decide) (br_f (by decide) (br_t (by decide) (br_f (by decide) (hp)))))))), fun post hp => ⟨by decide, br_f (by decide) (⟨by decide, br_t (by decide) (br_f (by decide) (br_f (by decide) (br_t (by decide) (br_t (by decide) (br_f (by decide) (hp))))))⟩)⟩⟩
  · exact ⟨1, Or.inr rfl, fun post hp => br_f (by decide) (br_t (by decide) (br_f (by decide) (hp))), fun post hp => ⟨by decide, br_f (by decide) (⟨by decide, br_f (by decide) (br_t (by decide) (br_f (by decide) (br_t (by decide) (br_f (by decide) (br_f (by decide) (hp))))))⟩)⟩⟩
  · exact ⟨1, Or.inr rfl, fun post hp => br_f (by decide) (br_t (by decide) (br_f (by decide) (hp))), fun post hp => ⟨by decide, br_f (by decide) (⟨by decide, br_f (by decide) (br_f (by decide) (br_f (by decide) (br_t (by decide) (br_f (by decide) (br_f (by decide) (hp))))))⟩)⟩⟩
  · exact ⟨0, Or.inl rfl, fun post hp => br_f (by decide) (br_t (by decide) (br_t (by decide) (hp))), fun post hp => ⟨by decide, br_f (by decide) (⟨by decide, br_f (by decide) (br_t (by decide) (br_f (by decide) (br_t (by decide) (br_f (by decide) (br_t (by decide) (hp))))))⟩)⟩⟩
/-- an IF's condition: the same answer on both sides; only the rows of characters change -/
def hd_O (cn ck fp pg ob hr sp ix sz pf sc ye yj : Int32) (st kd pl wd tm dg dc ss pc op ox oy oz ps jp oi pa pt sh lc rc dr ln sn sd ch oth lw hg le bk fm vy : Nat → Int32) (PX : (Int32 → SX → Prop) → Prop) (PY : (Int32 → SY → Prop) → Prop) : Prop :=
  ∃ (t : Int32) (lc' rc' ch' oth' : Nat → Int32), (t = 0 ∨ t = 1) ∧ (∀ post : Int32 → SX → Prop, post t (cn, ck, fp, pg, ob, hr, sp, ix, sz, pf, sc, st, kd, pl, wd, tm, dg, dc, ss, pc, op, ox, oy, oz, ps, jp, oi, pa, pt, sh, lc', rc', dr) → PX post) ∧ (∀ post : Int32 → SY → Prop, post t (cn, fp, ck, pf, hr, sp, ix, sc, ye, sz, yj, st, kd, pl, ln, dc, tm, sn, sd, op, ox, oy, oz, sh, ch', oth', lw, hg, le, bk, fm, vy) → PY post)
theorem hd_rel {j' K' A' W' T' D' B' S' L' e' q : Nat} (ok : st_ok st) (hj : j < 12) (R : it_R kd pl wd tm dg dc ss pc ln sn sd j K A W T D B S L) (hx : it_X ix T e) (hj' : j' < 12) (R' : it_R kd pl wd tm dg dc ss pc ln sn sd j' K' A' W' T' D' B' S' L') (hx' : it_X ix T' e') (hq : q ≤ 5) :
    hd_O cn ck fp pg ob hr sp ix sz pf sc ye yj st kd pl wd tm dg dc ss pc op ox oy oz ps jp oi pa pt sh lc rc dr ln sn sd ch oth lw hg le bk fm vy (fun post => wpX_holds post (cn, ck, fp, pg, ob, hr, sp, ix, sz, pf, sc, st, kd, pl, wd, tm, dg, dc, ss, pc, op, ox, oy, oz, ps, jp, oi, pa, pt, sh, lc, rc, dr) 10 (nI j) (nI j') (nI q)) (fun post => wpY_relates post (cn, fp, ck, pf, hr, sp, ix, sc, ye, sz, yj, st, kd, pl, ln, dc, tm, sn, sd, op, ox, oy, oz, sh, ch, oth, lw, hg, le, bk, fm, vy) (nI j) (nI j') (nI q)) := by
  have r1 := R.1.1
  have r1' := R'.1.1
  have k2 := R.2.1.2.1
  have k2' := R'.2.1.2.1
  have cj : (nI j).toNatClampNeg = j := nI_clamp (by omega)
  have cj' : (nI j').toNatClampNeg = j' := nI_clamp (by omega)
  have v : vp_in (nI j) 12 := vp_in_nI hj (by decide)
  have v' : vp_in (nI j') 12 := vp_in_nI hj' (by decide)
  have un : ∀ {i : Nat} {k : Nat}, i < 12 → kd i = nI k → k ≤ 3 → ¬ k = 2 → ¬ ft_s kd (nI i) 2 := by
    rintro i k hi hk h3 h2 ⟨i', hi', ei, w⟩
    rw [nI_eq (by omega) (by omega)] at ei
    subst ei
    rw [hk] at w
    exact h2 ((nI_eq (b := 2) (by omega) (by decide)).mp w)
  have n2 : ∀ {k : Nat}, k ≤ 3 → ¬ k = 2 → ¬ nI k = 2 := fun h3 h2 w => h2 ((nI_eq (b := 2) (by omega) (by decide)).mp w)
  by_cases ht : K = 2 ∨ K' = 2
  · obtain ⟨r, lc', rc', ch', oth', hr1, hX, hY⟩ := ct_pair (cn := cn) (ck := ck) (fp := fp) (pg := pg) (ob := ob) (hr := hr) (sp := sp) (ix := ix) (sz := sz) (pf := pf) (sc := sc) (ye := ye) (yj := yj) (st := st) (kd := kd) (pl := pl) (wd := wd) (tm := tm) (dg := dg) (dc := dc) (ss := ss) (pc := pc) (op := op) (ox := ox) (oy := oy) (oz := oz) (ps := ps) (jp := jp) (oi := oi) (pa := pa) (pt := pt) (sh := sh) (lc := lc) (rc := rc) (dr := dr) (ln := ln) (sn := sn) (sd := sd) (ch := ch) (oth := oth) (lw := lw) (hg := hg) (le := le) (bk := bk) (fm := fm) (vy := vy) hj R hx hj' R' hx'
    obtain ⟨t, ht1, gX, gY⟩ := rl_pair (cn := cn) (ck := ck) (fp := fp) (pg := pg) (ob := ob) (hr := hr) (sp := sp) (ix := ix) (sz := sz) (pf := pf) (sc := sc) (ye := ye) (yj := yj) (st := st) (kd := kd) (pl := pl) (wd := wd) (tm := tm) (dg := dg) (dc := dc) (ss := ss) (pc := pc) (op := op) (ox := ox) (oy := oy) (oz := oz) (ps := ps) (jp := jp) (oi := oi) (pa := pa) (pt := pt) (sh := sh) (lc := lc') (rc := rc') (dr := dr) (ln := ln) (sn := sn) (sd := sd) (ch := ch') (oth := oth') (lw := lw) (hg := hg) (le := le) (bk := bk) (fm := fm) (vy := vy) hq hr1
    have oX : ∀ post : Int32 → SX → Prop, post t (cn, ck, fp, pg, ob, hr, sp, ix, sz, pf, sc, st, kd, pl, wd, tm, dg, dc, ss, pc, op, ox, oy, oz, ps, jp, oi, pa, pt, sh, lc', rc', dr) → wX_holds_41 post (nI j) (nI j') (nI q) cn ck fp pg ob hr sp ix sz pf sc st kd pl wd tm dg dc ss pc op ox oy oz ps jp oi pa pt sh lc rc dr := by
      intro post hp
      unfold wX_holds_41
      exact hX _ (gX post hp)
    have oY : ∀ post : Int32 → SY → Prop, post t (cn, fp, ck, pf, hr, sp, ix, sc, ye, sz, yj, st, kd, pl, ln, dc, tm, sn, sd, op, ox, oy, oz, sh, ch', oth', lw, hg, le, bk, fm, vy) → wY_relates_20 post (nI j) (nI j') (nI q) cn fp ck pf hr sp ix sc ye sz yj st kd pl ln dc tm sn sd op ox oy oz sh ch oth lw hg le bk fm vy := by
      intro post hp
      unfold wY_relates_20
      exact hY _ (gY post hp)
    refine ⟨t, lc', rc', ch', oth', ht1, fun post hp => br_f (by decide) (br_f (by decide) (xi_sort (fun _ => br_f (by decide) (oX post hp)) (fun w => br_t rfl (xi_sort (fun _ => br_f (by decide) (oX post hp)) (fun w' => ?_))))), fun post hp => ⟨v, ?_⟩⟩
    · rcases ht with h | h
      · subst h
        exact absurd ⟨j, hj, rfl, r1⟩ w
      · subst h
        exact absurd ⟨j', hj', rfl, r1'⟩ w'
    · rw [cj, cj', r1, r1']
      by_cases h : K = 2
      · subst h
        exact br_t rfl (oY post hp)
      · have h' : K' = 2 := by omega
        subst h'
        exact br_f (n2 k2 h) ⟨v', br_t rfl (oY post hp)⟩
  · obtain ⟨r, hr1, hX, hY⟩ := cv_pair (cn := cn) (ck := ck) (fp := fp) (pg := pg) (ob := ob) (hr := hr) (sp := sp) (ix := ix) (sz := sz) (pf := pf) (sc := sc) (ye := ye) (yj := yj) (st := st) (kd := kd) (pl := pl) (wd := wd) (tm := tm) (dg := dg) (dc := dc) (ss := ss) (pc := pc) (op := op) (ox := ox) (oy := oy) (oz := oz) (ps := ps) (jp := jp) (oi := oi) (pa := pa) (pt := pt) (sh := sh) (lc := lc) (rc := rc) (dr := dr) (ln := ln) (sn := sn) (sd := sd) (ch := ch) (oth := oth) (lw := lw) (hg := hg) (le := le) (bk := bk) (fm := fm) (vy := vy) ok hj R hx hj' R' hx'
    obtain ⟨t, ht1, gX, gY⟩ := rl_pair (cn := cn) (ck := ck) (fp := fp) (pg := pg) (ob := ob) (hr := hr) (sp := sp) (ix := ix) (sz := sz) (pf := pf) (sc := sc) (ye := ye) (yj := yj) (st := st) (kd := kd) (pl := pl) (wd := wd) (tm := tm) (dg := dg) (dc := dc) (ss := ss) (pc := pc) (op := op) (ox := ox) (oy := oy) (oz := oz) (ps := ps) (jp := jp) (oi := oi) (pa := pa) (pt := pt) (sh := sh) (lc := lc) (rc := rc) (dr := dr) (ln := ln) (sn := sn) (sd := sd) (ch := ch) (oth := oth) (lw := lw) (hg := hg) (le := le) (bk := bk) (fm := fm) (vy := vy) hq hr1
    refine ⟨t, lc, rc, ch, oth, ht1, fun post hp => br_f (by decide) (br_f (by decide) (xi_sort (fun w => absurd w (un hj r1 k2 (fun z => ht (Or.inl z)))) (fun w => br_t rfl (xi_sort (fun w' => absurd w' (un hj' r1' k2' (fun z => ht (Or.inr z)))) (fun w' => br_t rfl (hX _ (gX post hp))))))), fun post hp => ⟨v, ?_⟩⟩
    rw [cj, cj', r1, r1']
    exact br_f (n2 k2 (fun z => ht (Or.inl z))) ⟨v', br_f (n2 k2' (fun z => ht (Or.inr z))) (hY _ (gY post hp))⟩
end
