/-! INDEX looked at: isOutOfTable and outside -/
def ms_P (ix : Int32) (kd tm : Nat → Int32) (x : Int32) : Prop := ∃ j, j < 12 ∧ x = nI j ∧ ¬ kd j = 0 ∧ ¬ tm j ≤ 1 ∧ ¬ (1 ≤ ix ∧ ix ≤ tm j)
def ms_c (o : Nat) : Nat := if (1 ≤ o ∧ o ≤ 10) ∨ o = 22 then 2 else if o = 12 ∨ o = 19 ∨ o = 20 then 1 else 0
def ms_B (ix : Int32) (kd tm : Nat → Int32) (o : Nat) (x y : Int32) : Prop := (1 ≤ ms_c o ∧ ms_P ix kd tm x) ∨ (ms_c o = 2 ∧ ms_P ix kd tm y)
theorem ac_ex {ix : Int32} {kd pl wd tm dg dc ss pc ln sn sd : Nat → Int32} {x : Int32} (hA : it_A kd pl wd tm dg dc ss pc ln sn sd) (hi : ft_i kd x) (hm : ¬ ms_P ix kd tm x) : ∃ j K A W T D B S L e, j < 12 ∧ x = nI j ∧ it_R kd pl wd tm dg dc ss pc ln sn sd j K A W T D B S L ∧ it_X ix T e := by
  obtain ⟨j, hj, rfl, hk⟩ := hi
  rcases hA j hj with z | ⟨K, A, W, T, D, B, S, L, R⟩
  · exact absurd z hk
  · have r4 := R.1.2.2.2.1
    have k3 := R.2.1.2.2.1
    have k4 := R.2.1.2.2.2.1
    by_cases hT : T = 1
    · exact ⟨j, K, A, W, T, D, B, S, L, 1, hj, rfl, R, by omega, by omega, Or.inl hT⟩
    · have h1 : 1 ≤ ix ∧ ix ≤ tm j := by
        refine Classical.byContradiction fun w => hm ⟨j, hj, rfl, hk, ?_, w⟩
        rw [r4]
        exact nI_ge (a := 1) (by omega) (by omega)
      rw [r4] at h1
      have h0 : ¬ ix < 0 := fun w => absurd (Int32.lt_of_le_of_lt h1.1 w) (by decide)
      obtain ⟨e, he, rfl⟩ := nI_of h0
      have a1 := (nI_leI (a := 1) (by decide) he).mp h1.1
      have a2 := (nI_leI he (by omega)).mp h1.2
      exact ⟨j, K, A, W, T, D, B, S, L, e, hj, rfl, R, a1, a2, Or.inr rfl⟩
section
variable {cn ck fp pg ob hr sp ix sz pf sc ye yj : Int32}
variable {st kd pl wd tm dg dc ss pc op ox oy oz ps jp oi pa pt sh lc rc dr ln sn sd ch oth lw hg le bk fm vy : Nat → Int32}
variable {x y z : Int32}
theorem xm_miss {post : Int32 → Prop} (h1 : ms_P ix kd tm x → post 1) (h0 : ¬ ms_P ix kd tm x → post 0) : wpX_isMissed post (cn, ck, fp, pg, ob, hr, sp, ix, sz, pf, sc, st, kd, pl, wd, tm, dg, dc, ss, pc, op, ox, oy, oz, ps, jp, oi, pa, pt, sh, lc, rc, dr) x := by
  unfold wpX_isMissed
  refine xi_item (fun hi => br_f (by decide) ?_) (fun hi => br_t rfl (h0 ?_))
  · obtain ⟨j, hj, rfl, hk⟩ := hi
    have v : vp_in (nI j) 12 := vp_in_nI hj (by decide)
    have cj : (nI j).toNatClampNeg = j := nI_clamp (by omega)
    have uq : ∀ {i : Nat}, i < 12 → nI j = nI i → j = i := fun hi' e => (nI_eq (by omega) (by omega)).mp e
    refine ⟨v, ?_⟩
    rw [cj]
    refine br_c (fun a => h0 ?_) (fun a => br_c (fun b => h1 ⟨j, hj, rfl, hk, a, fun w => absurd w.1 (Int32.not_le.mpr b)⟩) (fun b => ⟨v, br_c (fun c => h0 ?_) (fun c => h1 ⟨j, hj, rfl, hk, a, fun w => c w.2⟩)⟩))
    · rintro ⟨i, hi', e, -, q, -⟩
      obtain rfl := uq hi' e
      exact q a
    · rintro ⟨i, hi', e, -, -, q⟩
      obtain rfl := uq hi' e
      exact q ⟨Int32.not_lt.mp b, c⟩
  · rintro ⟨i, hi', e, q, -⟩
    exact hi ⟨i, hi', e, q⟩
theorem ym_out {post : Int32 → Prop} (hx : x = 16 ∨ ft_i kd x) (h1 : ms_P ix kd tm x → post 1) (h0 : ¬ ms_P ix kd tm x → post 0) : wpY_outside post (cn, fp, ck, pf, hr, sp, ix, sc, ye, sz, yj, st, kd, pl, ln, dc, tm, sn, sd, op, ox, oy, oz, sh, ch, oth, lw, hg, le, bk, fm, vy) x := by
  rcases hx with rfl | ⟨j, hj, rfl, hk⟩
  · refine br_t rfl (h0 ?_)
    rintro ⟨i, hi', e, -⟩
    exact nI_16 hi' e.symm
  · have v : vp_in (nI j) 12 := vp_in_nI hj (by decide)
    have cj : (nI j).toNatClampNeg = j := nI_clamp (by omega)
    have uq : ∀ {i : Nat}, i < 12 → nI j = nI i → j = i := fun hi' e => (nI_eq (by omega) (by omega)).mp e
    refine br_f (nI_16 hj) ⟨v, ?_⟩
    rw [cj]
    refine br_c (fun a => h0 ?_) (fun a => ⟨v, yi_in (fun b c => br_f (by decide) (h0 ?_)) (fun b => br_t rfl (h1 ⟨j, hj, rfl, hk, a, b⟩))⟩)
    · rintro ⟨i, hi', e, -, q, -⟩
      obtain rfl := uq hi' e
      exact q a
    · rintro ⟨i, hi', e, -, -, q⟩
      obtain rfl := uq hi' e
      exact q ⟨b, c⟩
theorem xm_tab {post : Int32 → Prop} {o : Nat} (ho : o ≤ 22) (h1 : ms_B ix kd tm o x y → post 1) (h0 : ¬ ms_B ix kd tm o x y → post 0) : wpX_isOutOfTable post (cn, ck, fp, pg, ob, hr, sp, ix, sz, pf, sc, st, kd, pl, wd, tm, dg, dc, ss, pc, op, ox, oy, oz, ps, jp, oi, pa, pt, sh, lc, rc, dr) (nI o) x y := by
  have T2 : ms_c o = 2 → ∀ q : Int32, wX_isOutOfTable_17 post q x y cn ck fp pg ob hr sp ix sz pf sc st kd pl wd tm dg dc ss pc op ox oy oz ps jp oi pa pt sh lc rc dr := by
    intro hc q
    refine br_f (by decide) (br_f (by decide) (xm_miss (fun a => br_f (by decide) (h1 (Or.inl ⟨by omega, a⟩))) (fun a => br_t rfl (br_f (by decide) (xm_miss (fun b => br_f (by decide) (h1 (Or.inr ⟨hc, b⟩))) (fun b => br_t rfl (h0 ?_)))))))
    rintro (w | w)
    · exact a w.2
    · exact b w.2
  have T1 : ms_c o = 1 → wX_isOutOfTable_47 post x y 0 cn ck fp pg ob hr sp ix sz pf sc st kd pl wd tm dg dc ss pc op ox oy oz ps jp oi pa pt sh lc rc dr := by
    intro hc
    refine br_f (by decide) (xm_miss (fun a => br_f (by decide) (h1 (Or.inl ⟨by omega, a⟩))) (fun a => br_t rfl (br_t rfl (h0 ?_))))
    rintro (w | w)
    · exact a w.2
    · have := w.1
      omega
  have T0 : ms_c o = 0 → wX_isOutOfTable_52 post x y 0 0 cn ck fp pg ob hr sp ix sz pf sc st kd pl wd tm dg dc ss pc op ox oy oz ps jp oi pa pt sh lc rc dr := by
    intro hc
    refine br_t rfl (br_t rfl (h0 ?_))
    rintro (w | w)
    · have := w.1
      omega
    · have := w.1
      omega
  rcases (show o = 0 ∨ o = 1 ∨ o = 2 ∨ o = 3 ∨ o = 4 ∨ o = 5 ∨ o = 6 ∨ o = 7 ∨ o = 8 ∨ o = 9 ∨ o = 10 ∨ o = 11 ∨ o = 12 ∨ o = 13 ∨ o = 14 ∨ o = 15 ∨ o = 16 ∨ o = 17 ∨ o = 18 ∨ o = 19 ∨ o = 20 ∨ o = 21 ∨ o = 22 by omega) with e | e | e | e | e | e | e | e | e | e | e | e | e | e | e | e | e | e | e | e | e | e | e <;> subst e
  · exact br_t (by decide) (br_f (by decide) (br_t rfl (br_f (by decide) (br_f (by decide) (br_f (by decide) (T0 rfl))))))
  · exact br_f (by decide) (br_t (by decide) (T2 rfl _))
  · exact br_f (by decide) (br_t (by decide) (T2 rfl _))
  · exact br_f (by decide) (br_t (by decide) (T2 rfl _))
  · exact br_f (by decide) (br_t (by decide) (T2 rfl _))
  · exact br_f (by decide) (br_t (by decide) (T2 rfl _))
  · exact br_f (by decide) (br_t (by decide) (T2 rfl _))
  · exact br_f (by decide) (br_t (by decide) (T2 rfl _))
  · exact br_f (by decide) (br_t (by decide) (T2 rfl _))
  · exact br_f (by decide) (br_t (by decide) (T2 rfl _))
  · exact br_f (by decide) (br_t (by decide) (T2 rfl _))
  · exact br_f (by decide) (br_f (by decide) (br_f (by decide) (br_t rfl (br_f (by decide) (br_f (by decide) (br_f (by decide) (T0 rfl)))))))
  · exact br_f (by decide) (br_f (by decide) (br_f (by decide) (br_t rfl (br_t rfl (T1 rfl)))))
  · exact br_f (by decide) (br_f (by decide) (br_f (by decide) (br_t rfl (br_f (by decide) (br_f (by decide) (br_f (by decide) (T0 rfl)))))))
  · exact br_f (by decide) (br_f (by decide) (br_f (by decide) (br_t rfl (br_f (by decide) (br_f (by decide) (br_f (by decide) (T0 rfl)))))))
  · exact br_f (by decide) (br_f (by decide) (br_f (by decide) (br_t rfl (br_f (by decide) (br_f (by decide) (br_f (by decide) (T0 rfl)))))))
  · exact br_f (by decide) (br_f (by decide) (br_f (by decide) (br_t rfl (br_f (by decide) (br_f (by decide) (br_f (by decide) (T0 rfl)))))))
  · exact br_f (by decide) (br_f (by decide) (br_f (by decide) (br_t rfl (br_f (by decide) (br_f (by decide) (br_f (by decide) (T0 rfl)))))))
  · exact br_f (by decide) (br_f (by decide) (br_f (by decide) (br_t rfl (br_f (by decide) (br_f (by decide) (br_f (by decide) (T0 rfl)))))))
  · exact br_f (by decide) (br_f (by decide) (br_f (by decide) (br_t rfl (br_f (by decide) (br_t rfl (T1 rfl))))))
  · exact br_f (by decide) (br_f (by decide) (br_f (by decide) (br_t rfl (br_f (by decide) (br_f (by decide) (br_t rfl (T1 rfl)))))))
  · exact br_f (by decide) (br_f (by decide) (br_f (by decide) (br_t rfl (br_f (by decide) (br_f (by decide) (br_f (by decide) (T0 rfl)))))))
  · exact br_f (by decide) (br_f (by decide) (br_t rfl (T2 rfl _)))
theorem ym_tab {post : SY → Prop} {o h : Nat} (hh : h < 48) (ho : o ≤ 22) (eo : op h = nI o) (ex : ox h = x) (ey : oy h = y) (ez : oz h = z) (hx : 1 ≤ ms_c o → x = 16 ∨ ft_i kd x) (hy : ms_c o = 2 → ft_i kd y)
    (h1 : ms_B ix kd tm o x y → post (cn, fp, ck, pf, nI h, sp, ix, sc, 2, sz, yj, st, kd, pl, ln, dc, tm, sn, sd, op, ox, oy, oz, sh, ch, oth, lw, hg, le, bk, fm, vy)) (h0 : ¬ ms_B ix kd tm o x y → wY_step_137 post (nI o) x y z cn fp ck pf (nI h) sp ix sc ye sz yj st kd pl ln dc tm sn sd op ox oy oz sh ch oth lw hg le bk fm vy) : wpY_step post (cn, fp, ck, pf, nI h, sp, ix, sc, ye, sz, yj, st, kd, pl, ln, dc, tm, sn, sd, op, ox, oy, oz, sh, ch, oth, lw, hg, le, bk, fm, vy) := by
  have v : vp_in (nI h) 48 := vp_in_nI hh (by decide)
  have ch1 : (nI h).toNatClampNeg = h := nI_clamp (by omega)
  have T2 : ms_c o = 2 → wY_step_98 post (nI o) x y z 1 cn fp ck pf (nI h) sp ix sc ye sz yj st kd pl ln dc tm sn sd op ox oy oz sh ch oth lw hg le bk fm vy := by
    intro hc
    refine br_f (by decide) (ym_out (hx (by omega)) (fun a => br_f (by decide) (h1 (Or.inl ⟨by omega, a⟩))) (fun a => br_t rfl (br_f (by decide) (ym_out (Or.inr (hy hc)) (fun b => br_f (by decide) (h1 (Or.inr ⟨hc, b⟩))) (fun b => br_t rfl (h0 ?_))))))
    rintro (w | w)
    · exact a w.2
    · exact b w.2
  have T1 : ms_c o = 1 → wY_step_103 post (nI o) x y z 1 0 cn fp ck pf (nI h) sp ix sc ye sz yj st kd pl ln dc tm sn sd op ox oy oz sh ch oth lw hg le bk fm vy := by
    intro hc
    refine br_f (by decide) (ym_out (hx (by omega)) (fun a => br_f (by decide) (h1 (Or.inl ⟨by omega, a⟩))) (fun a => br_t rfl (br_t rfl (h0 ?_))))
    rintro (w | w)
    · exact a w.2
    · have := w.1
      omega
  have T0 : ms_c o = 0 → wY_step_103 post (nI o) x y z 0 0 cn fp ck pf (nI h) sp ix sc ye sz yj st kd pl ln dc tm sn sd op ox oy oz sh ch oth lw hg le bk fm vy := by
    intro hc
    refine br_t rfl (br_t rfl (h0 ?_))
    rintro (w | w)
    · have := w.1
      omega
    · have := w.1
      omega
  have k80 : wY_step_80 post (nI o) x y z (if 1 ≤ ms_c o then 1 else 0) cn fp ck pf (nI h) sp ix sc ye sz yj st kd pl ln dc tm sn sd op ox oy oz sh ch oth lw hg le bk fm vy := by
    unfold wY_step_80
    rcases (show o = 0 ∨ o = 1 ∨ o = 2 ∨ o = 3 ∨ o = 4 ∨ o = 5 ∨ o = 6 ∨ o = 7 ∨ o = 8 ∨ o = 9 ∨ o = 10 ∨ o = 11 ∨ o = 12 ∨ o = 13 ∨ o = 14 ∨ o = 15 ∨ o = 16 ∨ o = 17 ∨ o = 18 ∨ o = 19 ∨ o = 20 ∨ o = 21 ∨ o = 22 by omega) with e | e | e | e | e | e | e | e | e | e | e | e | e | e | e | e | e | e | e | e | e | e | e <;> subst e
    · exact yi_in (fun a b => absurd a (by decide)) (fun _ => br_t rfl (br_f (by decide) (T0 rfl)))
    · exact yi_in (fun _ _ => br_f (by decide) (T2 rfl)) (fun w => absurd ⟨by decide, by decide⟩ w)
    · exact yi_in (fun _ _ => br_f (by decide) (T2 rfl)) (fun w => absurd ⟨by decide, by decide⟩ w)
    · exact yi_in (fun _ _ => br_f (by decide) (T2 rfl)) (fun w => absurd ⟨by decide, by decide⟩ w)
    · exact yi_in (fun _ _ => br_f (by decide) (T2 rfl)) (fun w => absurd ⟨by decide, by decide⟩ w)
    · exact yi_in (fun _ _ => br_f (by decide) (T2 rfl)) (fun w => absurd ⟨by decide, by decide⟩ w)
    · exact yi_in (fun _ _ => br_f (by decide) (T2 rfl)) (fun w => absurd ⟨by decide, by decide⟩ w)
    · exact yi_in (fun _ _ => br_f (by decide) (T2 rfl)) (fun w => absurd ⟨by decide, by decide⟩ w)
    · exact yi_in (fun _ _ => br_f (by decide) (T2 rfl)) (fun w => absurd ⟨by decide, by decide⟩ w)
    · exact yi_in (fun _ _ => br_f (by decide) (T2 rfl)) (fun w => absurd ⟨by decide, by decide⟩ w)
    · exact yi_in (fun _ _ => br_f (by decide) (T2 rfl)) (fun w => absurd ⟨by decide, by decide⟩ w)
    · exact yi_in (fun a b => absurd b (by decide)) (fun _ => br_t rfl (br_f (by decide) (T0 rfl)))
    · exact yi_in (fun a b => absurd b (by decide)) (fun _ => br_t rfl (br_f (by decide) (T1 rfl)))
    · exact yi_in (fun a b => absurd b (by decide)) (fun _ => br_t rfl (br_f (by decide) (T0 rfl)))
    · exact yi_in (fun a b => absurd b (by decide)) (fun _ => br_t rfl (br_f (by decide) (T0 rfl)))
    · exact yi_in (fun a b => absurd b (by decide)) (fun _ => br_t rfl (br_f (by decide) (T0 rfl)))
    · exact yi_in (fun a b => absurd b (by decide)) (fun _ => br_t rfl (br_f (by decide) (T0 rfl)))
    · exact yi_in (fun a b => absurd b (by decide)) (fun _ => br_t rfl (br_f (by decide) (T0 rfl)))
    · exact yi_in (fun a b => absurd b (by decide)) (fun _ => br_t rfl (br_f (by decide) (T0 rfl)))
    · exact yi_in (fun a b => absurd b (by decide)) (fun _ => br_t rfl (br_f (by decide) (T1 rfl)))
    · exact yi_in (fun a b => absurd b (by decide)) (fun _ => br_t rfl (br_f (by decide) (T1 rfl)))
    · exact yi_in (fun a b => absurd b (by decide)) (fun _ => br_t rfl (br_f (by decide) (T0 rfl)))
    · exact yi_in (fun a b => absurd b (by decide)) (fun _ => br_t rfl (br_t rfl (T2 rfl)))
  refine ⟨v, nm_r (by rw [ch1, eo]) ⟨v, nm_r (by rw [ch1, ex]) ⟨v, nm_r (by rw [ch1, ey]) ⟨v, nm_r (by rw [ch1, ez]) ?_⟩⟩⟩⟩
  rcases (show o = 0 ∨ o = 1 ∨ o = 2 ∨ o = 3 ∨ o = 4 ∨ o = 5 ∨ o = 6 ∨ o = 7 ∨ o = 8 ∨ o = 9 ∨ o = 10 ∨ o = 11 ∨ o = 12 ∨ o = 13 ∨ o = 14 ∨ o = 15 ∨ o = 16 ∨ o = 17 ∨ o = 18 ∨ o = 19 ∨ o = 20 ∨ o = 21 ∨ o = 22 by omega) with e | e | e | e | e | e | e | e | e | e | e | e | e | e | e | e | e | e | e | e | e | e | e <;> subst e
  · exact yi_in (fun a b => absurd a (by decide)) (fun _ => br_t rfl (br_f (by decide) (br_f (by decide) (br_f (by decide) (br_f (by decide) (k80))))))
  · exact yi_in (fun _ _ => br_f (by decide) k80) (fun w => absurd ⟨by decide, by decide⟩ w)
  · exact yi_in (fun _ _ => br_f (by decide) k80) (fun w => absurd ⟨by decide, by decide⟩ w)
  · exact yi_in (fun _ _ => br_f (by decide) k80) (fun w => absurd ⟨by decide, by decide⟩ w)
  · exact yi_in (fun _ _ => br_f (by decide) k80) (fun w => absurd ⟨by decide, by decide⟩ w)
  · exact yi_in (fun _ _ => br_f (by decide) k80) (fun w => absurd ⟨by decide, by decide⟩ w)
  · exact yi_in (fun _ _ => br_f (by decide) k80) (fun w => absurd ⟨by decide, by decide⟩ w)
  · exact yi_in (fun _ _ => br_f (by decide) k80) (fun w => absurd ⟨by decide, by decide⟩ w)
  · exact yi_in (fun _ _ => br_f (by decide) k80) (fun w => absurd ⟨by decide, by decide⟩ w)
  · exact yi_in (fun _ _ => br_f (by decide) k80) (fun w => absurd ⟨by decide, by decide⟩ w)
  · exact yi_in (fun _ _ => br_f (by decide) k80) (fun w => absurd ⟨by decide, by decide⟩ w)
  · exact yi_in (fun a b => absurd b (by decide)) (fun _ => br_t rfl (br_f (by decide) (br_f (by decide) (br_f (by decide) (br_f (by decide) (k80))))))
  · exact yi_in (fun a b => absurd b (by decide)) (fun _ => br_t rfl (br_t rfl k80))
  · exact yi_in (fun a b => absurd b (by decide)) (fun _ => br_t rfl (br_f (by decide) (br_f (by decide) (br_f (by decide) (br_f (by decide) (k80))))))
  · exact yi_in (fun a b => absurd b (by decide)) (fun _ => br_t rfl (br_f (by decide) (br_f (by decide) (br_f (by decide) (br_f (by decide) (k80))))))
  · exact yi_in (fun a b => absurd b (by decide)) (fun _ => br_t rfl (br_f (by decide) (br_f (by decide) (br_f (by decide) (br_f (by decide) (k80))))))
  · exact yi_in (fun a b => absurd b (by decide)) (fun _ => br_t rfl (br_f (by decide) (br_f (by decide) (br_f (by decide) (br_f (by decide) (k80))))))
  · exact yi_in (fun a b => absurd b (by decide)) (fun _ => br_t rfl (br_f (by decide) (br_f (by decide) (br_f (by decide) (br_f (by decide) (k80))))))
  · exact yi_in (fun a b => absurd b (by decide)) (fun _ => br_t rfl (br_f (by decide) (br_f (by decide) (br_f (by decide) (br_f (by decide) (k80))))))
  · exact yi_in (fun a b => absurd b (by decide)) (fun _ => br_t rfl (br_f (by decide) (br_t rfl k80)))
  · exact yi_in (fun a b => absurd b (by decide)) (fun _ => br_t rfl (br_f (by decide) (br_f (by decide) (br_t rfl k80))))
  · exact yi_in (fun a b => absurd b (by decide)) (fun _ => br_t rfl (br_f (by decide) (br_f (by decide) (br_f (by decide) (br_f (by decide) (k80))))))
  · exact yi_in (fun a b => absurd b (by decide)) (fun _ => br_t rfl (br_f (by decide) (br_f (by decide) (br_f (by decide) (br_t rfl k80)))))
end
