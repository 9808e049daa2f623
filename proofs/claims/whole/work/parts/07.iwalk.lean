/-! the walks that look an item up -/
theorem yi_in {post : Int32 → Prop} {v l m : Int32} (h1 : l ≤ v → v ≤ m → post 1) (h0 : ¬ (l ≤ v ∧ v ≤ m) → post 0) : wpY_in post v l m :=
  br_c (fun a => h0 (fun z => absurd z.1 (Int32.not_le.mpr a))) (fun a => br_c (fun b => h0 (fun z => absurd z.2 (Int32.not_le.mpr b))) (fun b => h1 (Int32.not_lt.mp a) (Int32.not_lt.mp b)))
section
variable {cn ck fp pg ob hr sp ix sz pf sc ye yj : Int32}
variable {st kd pl wd tm dg dc ss pc op ox oy oz ps jp oi pa pt sh lc rc dr ln sn sd ch oth lw hg le bk fm vy : Nat → Int32}
variable {K A W T D B S L e j : Nat}
theorem xi_place {post : Int32 → Prop} (hj : j < 12) (R : it_R kd pl wd tm dg dc ss pc ln sn sd j K A W T D B S L) (hx : it_X ix T e) (h : post (nI (A + (e - 1) * W))) : wpX_placeNow post (cn, ck, fp, pg, ob, hr, sp, ix, sz, pf, sc, st, kd, pl, wd, tm, dg, dc, ss, pc, op, ox, oy, oz, ps, jp, oi, pa, pt, sh, lc, rc, dr) (nI j) := by
  obtain ⟨⟨r1, r2, r3, r4, r5, r6, r7, r8⟩, ⟨k1, k2, k3, k4, k5, k6, k7, k8, k9, k10, k11⟩, -, -, -⟩ := R
  obtain ⟨x1, x2, x3⟩ := hx
  have v : vp_in (nI j) 12 := vp_in_nI hj (by decide)
  refine ⟨v, ?_⟩
  rw [nI_clamp (by omega), r4, r2, r3]
  by_cases hT : T = 1
  · have he : e = 1 := by omega
    subst he
    rw [Nat.sub_self, Nat.zero_mul, Nat.add_zero] at h
    exact br_t (nI_le (b := 1) (by omega) (by decide)) ⟨v, h⟩
  · rcases x3 with x3 | x3
    · exact absurd x3 hT
    · obtain ⟨c, rfl⟩ : ∃ c, e = c + 1 := ⟨e - 1, by omega⟩
      refine br_f (nI_ge (a := 1) (by omega) (by omega)) ⟨v, v, ?_⟩
      rw [x3, nI_pred, pk_mul, nI_add]
      exact h
theorem yi_width {post : Int32 → Prop} (hj : j < 12) (R : it_R kd pl wd tm dg dc ss pc ln sn sd j K A W T D B S L) (h : post (nI W)) : wpY_width post (cn, fp, ck, pf, hr, sp, ix, sc, ye, sz, yj, st, kd, pl, ln, dc, tm, sn, sd, op, ox, oy, oz, sh, ch, oth, lw, hg, le, bk, fm, vy) (nI j) := by
  obtain ⟨⟨r1, r2, r3, r4, r5, r6, r7, r8⟩, ⟨k1, k2, k3, k4, k5, k6, k7, k8, k9, k10, k11⟩, q1, q2, -⟩ := R
  have v : vp_in (nI j) 12 := vp_in_nI hj (by decide)
  refine ⟨v, v, ?_⟩
  rw [nI_clamp (by omega), r1, r8]
  by_cases hK : K = 1
  · subst hK
    obtain ⟨-, -, -, q⟩ := q1 rfl
    refine br_t rfl ⟨v, ?_⟩
    rw [q]
    by_cases hS : S = 0
    · subst hS
      rw [k7] at h
      exact br_t rfl (by rw [Int32.add_zero]; exact h)
    · have e1 : S = 1 := by omega
      subst e1
      rw [k7] at h
      exact br_f (nI_ne0 (by omega) (by omega)) (by rw [nI_1]; exact h)
  · have e0 : S = 0 := q2 hK
    subst e0
    rw [k7] at h
    refine br_f ?_ (by rw [Int32.add_zero]; exact h)
    intro z
    exact hK ((nI_eq (b := 1) (by omega) (by decide)).mp z)
theorem yi_sign {post : Int32 → Prop} (hj : j < 12) (R : it_R kd pl wd tm dg dc ss pc ln sn sd j K A W T D B S L) (h : post (nI S)) : wpY_hasSign post (cn, fp, ck, pf, hr, sp, ix, sc, ye, sz, yj, st, kd, pl, ln, dc, tm, sn, sd, op, ox, oy, oz, sh, ch, oth, lw, hg, le, bk, fm, vy) (nI j) := by
  obtain ⟨⟨r1, r2, r3, r4, r5, r6, r7, r8⟩, ⟨k1, k2, k3, k4, k5, k6, k7, k8, k9, k10, k11⟩, q1, q2, -⟩ := R
  have v : vp_in (nI j) 12 := vp_in_nI hj (by decide)
  refine ⟨v, ?_⟩
  rw [nI_clamp (by omega), r1]
  by_cases hK : K = 1
  · subst hK
    obtain ⟨-, -, -, q⟩ := q1 rfl
    refine br_t rfl ⟨v, ?_⟩
    rw [q]
    by_cases hS : S = 0
    · subst hS
      exact br_t rfl h
    · have e1 : S = 1 := by omega
      subst e1
      exact br_f (nI_ne0 (by omega) (by omega)) h
  · have e0 : S = 0 := q2 hK
    subst e0
    refine br_f ?_ h
    intro z
    exact hK ((nI_eq (b := 1) (by omega) (by decide)).mp z)
theorem yi_spot {post : Int32 → Prop} (hj : j < 12) (R : it_R kd pl wd tm dg dc ss pc ln sn sd j K A W T D B S L) (he : 1 ≤ e) (h : post (nI (A + (e - 1) * W))) : wpY_spot post (cn, fp, ck, pf, hr, sp, ix, sc, ye, sz, yj, st, kd, pl, ln, dc, tm, sn, sd, op, ox, oy, oz, sh, ch, oth, lw, hg, le, bk, fm, vy) (nI j) (nI e) := by
  have v : vp_in (nI j) 12 := vp_in_nI hj (by decide)
  refine ⟨v, yi_width hj R ?_⟩
  obtain ⟨c, rfl⟩ : ∃ c, e = c + 1 := ⟨e - 1, by omega⟩
  rw [nI_clamp (by omega), R.1.2.1, nI_pred, pk_mul, nI_add]
  exact h
theorem yi_elem {post : Int32 → Prop} (hj : j < 12) (R : it_R kd pl wd tm dg dc ss pc ln sn sd j K A W T D B S L) (hx : it_X ix T e) (h : post (nI e)) : wpY_element post (cn, fp, ck, pf, hr, sp, ix, sc, ye, sz, yj, st, kd, pl, ln, dc, tm, sn, sd, op, ox, oy, oz, sh, ch, oth, lw, hg, le, bk, fm, vy) (nI j) := by
  obtain ⟨⟨r1, r2, r3, r4, r5, r6, r7, r8⟩, ⟨k1, k2, k3, k4, k5, k6, k7, k8, k9, k10, k11⟩, -, -, -⟩ := R
  obtain ⟨x1, x2, x3⟩ := hx
  have v : vp_in (nI j) 12 := vp_in_nI hj (by decide)
  refine ⟨v, ?_⟩
  rw [nI_clamp (by omega), r4]
  by_cases hT : T = 1
  · have he : e = 1 := by omega
    subst he
    subst hT
    exact br_t rfl h
  · rcases x3 with x3 | x3
    · exact absurd x3 hT
    · rw [x3]
      exact br_f (fun z => hT ((nI_eq (b := 1) (by omega) (by decide)).mp z)) h
theorem xi_item {post : Int32 → Prop} {x : Int32} (h1 : ft_i kd x → post 1) (h0 : ¬ ft_i kd x → post 0) : wpX_isItem post (cn, ck, fp, pg, ob, hr, sp, ix, sz, pf, sc, st, kd, pl, wd, tm, dg, dc, ss, pc, op, ox, oy, oz, ps, jp, oi, pa, pt, sh, lc, rc, dr) x := by
  rcases pk_ix x (n := 12) (by decide) with h | h | ⟨i, hi, rfl⟩
  · refine br_t h (h0 ?_)
    rintro ⟨i, hi, rfl, -⟩
    exact nI_pos (by omega) h
  · refine br_f (fun z => ?_) (br_t h (h0 ?_))
    · exact absurd (Int32.lt_of_le_of_lt h z) (by decide)
    · rintro ⟨i, hi, rfl, -⟩
      exact nI_ge hi (by decide) h
  · refine br_f (nI_pos (by omega)) (br_f (nI_ge (b := 12) hi (by decide)) ⟨vp_in_nI hi (by decide), ?_⟩)
    rw [nI_clamp (by omega)]
    refine br_c (fun z => h0 ?_) (fun z => h1 ⟨i, hi, rfl, z⟩)
    rintro ⟨k, hk, e, q⟩
    rw [nI_eq (by omega) (by omega)] at e
    subst e
    exact q z
theorem xi_sort {post : Int32 → Prop} {x s : Int32} (h1 : ft_s kd x s → post 1) (h0 : ¬ ft_s kd x s → post 0) : wpX_isSort post (cn, ck, fp, pg, ob, hr, sp, ix, sz, pf, sc, st, kd, pl, wd, tm, dg, dc, ss, pc, op, ox, oy, oz, ps, jp, oi, pa, pt, sh, lc, rc, dr) x s := by
  rcases pk_ix x (n := 12) (by decide) with h | h | ⟨i, hi, rfl⟩
  · refine br_t h (h0 ?_)
    rintro ⟨i, hi, rfl, -⟩
    exact nI_pos (by omega) h
  · refine br_f (fun z => ?_) (br_t h (h0 ?_))
    · exact absurd (Int32.lt_of_le_of_lt h z) (by decide)
    · rintro ⟨i, hi, rfl, -⟩
      exact nI_ge hi (by decide) h
  · refine br_f (nI_pos (by omega)) (br_f (nI_ge (b := 12) hi (by decide)) ⟨vp_in_nI hi (by decide), ?_⟩)
    rw [nI_clamp (by omega)]
    refine br_c (fun z => h1 ⟨i, hi, rfl, z⟩) (fun z => h0 ?_)
    rintro ⟨k, hk, e, q⟩
    rw [nI_eq (by omega) (by omega)] at e
    subst e
    exact z q
theorem yi_item {post : Int32 → Prop} {x : Int32} (h1 : ft_i kd x → post 1) (h0 : ¬ ft_i kd x → post 0) : wpY_isItem post (cn, fp, ck, pf, hr, sp, ix, sc, ye, sz, yj, st, kd, pl, ln, dc, tm, sn, sd, op, ox, oy, oz, sh, ch, oth, lw, hg, le, bk, fm, vy) x := by
  unfold wpY_isItem
  refine yi_in ?_ ?_
  · intro a b
    obtain ⟨i, hi, rfl⟩ : ∃ i, i < 12 ∧ x = nI i := by
      obtain ⟨i, hi, rfl⟩ := nI_of (Int32.not_lt.mpr a)
      exact ⟨i, by have := (nI_leI (b := 11) hi (by decide)).mp b; omega, rfl⟩
    refine br_f (by decide) ⟨vp_in_nI hi (by decide), ?_⟩
    rw [nI_clamp (by omega)]
    refine br_c (fun z => h0 ?_) (fun z => h1 ⟨i, hi, rfl, z⟩)
    rintro ⟨k, hk, e, q⟩
    rw [nI_eq (by omega) (by omega)] at e
    subst e
    exact q z
  · intro z
    refine br_t rfl (h0 ?_)
    rintro ⟨i, hi, rfl, -⟩
    exact z ⟨nI_pos' (by omega), nI_le (b := 11) (by omega) (by decide)⟩
theorem yi_sort {post : Int32 → Prop} {x s : Int32} (hs : ¬ s = 0) (h1 : ft_s kd x s → post 1) (h0 : ¬ ft_s kd x s → post 0) : wpY_isSort post (cn, fp, ck, pf, hr, sp, ix, sc, ye, sz, yj, st, kd, pl, ln, dc, tm, sn, sd, op, ox, oy, oz, sh, ch, oth, lw, hg, le, bk, fm, vy) x s := by
  unfold wpY_isSort
  refine yi_item ?_ ?_
  · intro a
    obtain ⟨i, hi, rfl, hn⟩ := a
    refine br_f (by decide) ⟨vp_in_nI hi (by decide), ?_⟩
    rw [nI_clamp (by omega)]
    refine br_c (fun z => h1 ⟨i, hi, rfl, z⟩) (fun z => h0 ?_)
    rintro ⟨k, hk, e, q⟩
    rw [nI_eq (by omega) (by omega)] at e
    subst e
    exact z q
  · intro z
    refine br_t rfl (h0 ?_)
    rintro ⟨i, hi, rfl, q⟩
    exact z ⟨i, hi, rfl, fun w => hs (q.symm.trans w)⟩
theorem xi_dec {post : Int32 → Prop} (hj : j < 12) (R : it_R kd pl wd tm dg dc ss pc ln sn sd j K A W T D B S L) (h : post (nI B)) : wpX_operandDecimals post (cn, ck, fp, pg, ob, hr, sp, ix, sz, pf, sc, st, kd, pl, wd, tm, dg, dc, ss, pc, op, ox, oy, oz, ps, jp, oi, pa, pt, sh, lc, rc, dr) (nI j) := by
  refine br_f (fun z => ?_) ⟨vp_in_nI hj (by decide), ?_⟩
  · have := (nI_eq (b := 16) (by omega) (by decide)).mp z
    omega
  · rw [nI_clamp (by omega), R.1.2.2.2.2.2.1]
    exact h
end
