/-! hasGoodOperands and fits -/
theorem go_1 {kd : Nat → Int32} {np : Nat} {x y z : Int32} : ft_G kd np 1 x y z ↔ ((x = 16 ∨ ft_i kd x) ∧ ft_i kd y) := by simp [ft_G]
theorem go_10 {kd : Nat → Int32} {np : Nat} {x y z : Int32} : ft_G kd np 10 x y z ↔ (ft_c kd x ∧ ft_c kd y ∧ ∃ q, q ≤ 5 ∧ z = nI q) := by simp [ft_G]
theorem go_12 {kd : Nat → Int32} {np : Nat} {x y z : Int32} : ft_G kd np 12 x y z ↔ ft_c kd x := by simp [ft_G]
theorem go_17 {kd : Nat → Int32} {np : Nat} {x y z : Int32} : ft_G kd np 17 x y z ↔ (∃ a, x = nI a ∧ a < np) := by simp [ft_G]
theorem go_19 {kd : Nat → Int32} {np : Nat} {x y z : Int32} : ft_G kd np 19 x y z ↔ (x = 16 ∨ ft_i kd x) := by simp [ft_G]
theorem go_20 {kd : Nat → Int32} {np : Nat} {x y z : Int32} : ft_G kd np 20 x y z ↔ (x = 16 ∨ ft_s kd x 1) := by simp [ft_G]
theorem go_22 {kd : Nat → Int32} {np : Nat} {x y z : Int32} : ft_G kd np 22 x y z ↔ (ft_i kd x ∧ ft_s kd y 1) := by simp [ft_G]
theorem go_15 {kd : Nat → Int32} {np : Nat} {x y z : Int32} : ft_G kd np 15 x y z ↔ (∃ a b, x = nI a ∧ y = nI b ∧ a ≤ b ∧ b < np) := by simp [ft_G]
theorem go_16 {kd : Nat → Int32} {np : Nat} {x y z : Int32} : ft_G kd np 16 x y z ↔ (∃ a b, x = nI a ∧ y = nI b ∧ a ≤ b ∧ b < np) := by simp [ft_G]
theorem go_2 {kd : Nat → Int32} {np : Nat} {x y z : Int32} : ft_G kd np 2 x y z ↔ ((x = 16 ∨ ft_s kd x 1) ∧ ft_s kd y 1) := by simp [ft_G]
theorem go_3 {kd : Nat → Int32} {np : Nat} {x y z : Int32} : ft_G kd np 3 x y z ↔ ((x = 16 ∨ ft_s kd x 1) ∧ ft_s kd y 1) := by simp [ft_G]
theorem go_4 {kd : Nat → Int32} {np : Nat} {x y z : Int32} : ft_G kd np 4 x y z ↔ ((x = 16 ∨ ft_s kd x 1) ∧ ft_s kd y 1) := by simp [ft_G]
theorem go_5 {kd : Nat → Int32} {np : Nat} {x y z : Int32} : ft_G kd np 5 x y z ↔ ((x = 16 ∨ ft_s kd x 1) ∧ ft_s kd y 1) := by simp [ft_G]
theorem go_6 {kd : Nat → Int32} {np : Nat} {x y z : Int32} : ft_G kd np 6 x y z ↔ ((x = 16 ∨ ft_s kd x 1) ∧ ft_s kd y 1) := by simp [ft_G]
theorem go_7 {kd : Nat → Int32} {np : Nat} {x y z : Int32} : ft_G kd np 7 x y z ↔ ((x = 16 ∨ ft_s kd x 1) ∧ ft_s kd y 1) := by simp [ft_G]
theorem go_8 {kd : Nat → Int32} {np : Nat} {x y z : Int32} : ft_G kd np 8 x y z ↔ ((x = 16 ∨ ft_s kd x 1) ∧ ft_s kd y 1) := by simp [ft_G]
theorem go_9 {kd : Nat → Int32} {np : Nat} {x y z : Int32} : ft_G kd np 9 x y z ↔ ((x = 16 ∨ ft_s kd x 1) ∧ ft_s kd y 1) := by simp [ft_G]
theorem go_0 {kd : Nat → Int32} {np : Nat} {x y z : Int32} : ft_G kd np 0 x y z := by simp [ft_G]
theorem go_11 {kd : Nat → Int32} {np : Nat} {x y z : Int32} : ft_G kd np 11 x y z := by simp [ft_G]
theorem go_13 {kd : Nat → Int32} {np : Nat} {x y z : Int32} : ft_G kd np 13 x y z := by simp [ft_G]
theorem go_14 {kd : Nat → Int32} {np : Nat} {x y z : Int32} : ft_G kd np 14 x y z := by simp [ft_G]
theorem go_18 {kd : Nat → Int32} {np : Nat} {x y z : Int32} : ft_G kd np 18 x y z := by simp [ft_G]
theorem go_21 {kd : Nat → Int32} {np : Nat} {x y z : Int32} : ft_G kd np 21 x y z := by simp [ft_G]
theorem gz_q {z : Int32} : (∃ q, q ≤ 5 ∧ z = nI q) ↔ (¬ z < 0 ∧ ¬ 5 < z) := by
  constructor
  · rintro ⟨q, hq, rfl⟩
    exact ⟨nI_pos (by omega), nI_nlt (a := 5) hq (by decide)⟩
  · rintro ⟨a, b⟩
    obtain ⟨q, hq, rfl⟩ := nI_of a
    exact ⟨q, (nI_leI (b := 5) hq (by decide)).mp (Int32.not_lt.mp b), rfl⟩
theorem gc_iff {kd pl wd tm dg dc ss pc ln sn sd : Nat → Int32} {x : Int32} (hA : it_A kd pl wd tm dg dc ss pc ln sn sd) : ft_c kd x ↔ (ft_i kd x ∧ ¬ ft_s kd x 3) := by
  constructor
  · intro h
    refine ⟨fc_i h, ?_⟩
    rintro ⟨i, hi, rfl, w⟩
    rcases h with ⟨j, hj, e, q⟩ | ⟨j, hj, e, q⟩ <;> rw [nI_eq (by omega) (by omega)] at e <;> subst e <;> rw [w] at q <;> exact absurd q (by decide)
  · rintro ⟨⟨j, hj, rfl, w⟩, h3⟩
    rcases hA j hj with z | ⟨K, A, W, T, D, B, S, L, R⟩
    · exact absurd z w
    · have r1 := R.1.1
      have k1 := R.2.1.1
      have k2 := R.2.1.2.1
      rcases (show K = 1 ∨ K = 2 ∨ K = 3 by omega) with e | e | e <;> subst e
      · exact Or.inl ⟨j, hj, rfl, r1⟩
      · exact Or.inr ⟨j, hj, rfl, r1⟩
      · exact absurd ⟨j, hj, rfl, r1⟩ h3
section
variable {cn ck fp pg ob hr sp ix sz pf sc ye yj : Int32}
variable {st kd pl wd tm dg dc ss pc op ox oy oz ps jp oi pa pt sh lc rc dr ln sn sd ch oth lw hg le bk fm vy : Nat → Int32}
variable {x y z : Int32} {np : Nat}
theorem xf_cmp {post : Int32 → Prop} (h1 : ft_c kd x → post 1) (h0 : ¬ ft_c kd x → post 0) : wpX_isComparable post (cn, ck, fp, pg, ob, hr, sp, ix, sz, pf, sc, st, kd, pl, wd, tm, dg, dc, ss, pc, op, ox, oy, oz, ps, jp, oi, pa, pt, sh, lc, rc, dr) x := by
  unfold wpX_isComparable
  refine xi_sort (fun a => br_f (by decide) (h1 (Or.inl a))) (fun a => br_t rfl (xi_sort (fun b => br_f (by decide) (h1 (Or.inr b))) (fun b => br_t rfl (h0 ?_))))
  rintro (w | w)
  · exact a w
  · exact b w
theorem xf_par {post : Int32 → Prop} (hnp : np < 2 ^ 31) (h1 : (∃ a, x = nI a ∧ a < np) → post 1) (h0 : (¬ ∃ a, x = nI a ∧ a < np) → post 0) : wpX_isParagraph post (cn, ck, fp, nI np, ob, hr, sp, ix, sz, pf, sc, st, kd, pl, wd, tm, dg, dc, ss, pc, op, ox, oy, oz, ps, jp, oi, pa, pt, sh, lc, rc, dr) x := by
  refine br_c (fun a => h0 ?_) (fun a => br_c (fun b => h0 ?_) (fun b => h1 ?_))
  · rintro ⟨k, rfl, hk⟩
    exact nI_pos (by omega) a
  · rintro ⟨k, rfl, hk⟩
    exact nI_ge hk hnp b
  · obtain ⟨k, hk, rfl⟩ := nI_of a
    exact ⟨k, rfl, Nat.lt_of_not_le fun w => b (nI_le w hk)⟩
theorem xf_all {post : Int32 → Prop} {i o : Nat} (hi : i < 48) (ho : o ≤ 22) (hnp : np < 2 ^ 31) (e1 : op i = nI o) (h1 : ft_G kd np o (ox i) (oy i) (oz i) → post 1) (h0 : ¬ ft_G kd np o (ox i) (oy i) (oz i) → post 0) : wpX_hasGoodOperands post (cn, ck, fp, nI np, ob, hr, sp, ix, sz, pf, sc, st, kd, pl, wd, tm, dg, dc, ss, pc, op, ox, oy, oz, ps, jp, oi, pa, pt, sh, lc, rc, dr) (nI i) := by
  have v : vp_in (nI i) 48 := vp_in_nI hi (by decide)
  have ci : (nI i).toNatClampNeg = i := nI_clamp (by omega)
  refine ⟨v, nm_r (by rw [ci, e1]) ⟨v, nm_r (by rw [ci]) ⟨v, nm_r (by rw [ci]) ?_⟩⟩⟩
  rcases (show o = 0 ∨ o = 1 ∨ o = 2 ∨ o = 3 ∨ o = 4 ∨ o = 5 ∨ o = 6 ∨ o = 7 ∨ o = 8 ∨ o = 9 ∨ o = 10 ∨ o = 11 ∨ o = 12 ∨ o = 13 ∨ o = 14 ∨ o = 15 ∨ o = 16 ∨ o = 17 ∨ o = 18 ∨ o = 19 ∨ o = 20 ∨ o = 21 ∨ o = 22 by omega) with e | e | e | e | e | e | e | e | e | e | e | e | e | e | e | e | e | e | e | e | e | e | e <;> subst e
  · exact br_t (by decide) (br_t (by decide) (h1 go_0))
  · rw [go_1] at h1 h0
    have k : (ox i = 16 ∨ ft_i kd (ox i)) → wX_hasGoodOperands_182 post (oy i) cn ck fp (nI np) ob hr sp ix sz pf sc st kd pl wd tm dg dc ss pc op ox oy oz ps jp oi pa pt sh lc rc dr := by
      intro a
      unfold wX_hasGoodOperands_182
      exact xi_item (fun b => br_f (by decide) (h1 ⟨a, b⟩)) (fun b => br_t rfl (h0 (fun w => b w.2)))
    exact br_t (by decide) (br_f (by decide) (br_f (by decide) (br_t rfl (br_c (fun a => k (Or.inl a)) (fun a => xi_item (fun b => br_f (by decide) (k (Or.inr b))) (fun b => br_t rfl (h0 (fun w => w.1.elim a b))))))))
  · rw [go_2] at h1 h0
    have k : (ox i = 16 ∨ ft_s kd (ox i) 1) → wX_hasGoodOperands_48 post (oy i) cn ck fp (nI np) ob hr sp ix sz pf sc st kd pl wd tm dg dc ss pc op ox oy oz ps jp oi pa pt sh lc rc dr := by
      intro a
      unfold wX_hasGoodOperands_48
      exact xi_sort (fun b => br_f (by decide) (h1 ⟨a, b⟩)) (fun b => br_t rfl (h0 (fun w => b w.2)))
    exact br_f (by decide) (br_f (by decide) (br_c (fun a => k (Or.inl a)) (fun a => xi_sort (fun b => br_f (by decide) (k (Or.inr b))) (fun b => br_t rfl (h0 (fun w => w.1.elim a b))))))
  · rw [go_3] at h1 h0
    have k : (ox i = 16 ∨ ft_s kd (ox i) 1) → wX_hasGoodOperands_48 post (oy i) cn ck fp (nI np) ob hr sp ix sz pf sc st kd pl wd tm dg dc ss pc op ox oy oz ps jp oi pa pt sh lc rc dr := by
      intro a
      unfold wX_hasGoodOperands_48
      exact xi_sort (fun b => br_f (by decide) (h1 ⟨a, b⟩)) (fun b => br_t rfl (h0 (fun w => b w.2)))
    exact br_f (by decide) (br_f (by decide) (br_c (fun a => k (Or.inl a)) (fun a => xi_sort (fun b => br_f (by decide) (k (Or.inr b))) (fun b => br_t rfl (h0 (fun w => w.1.elim a b))))))
  · rw [go_4] at h1 h0
    have k : (ox i = 16 ∨ ft_s kd (ox i) 1) → wX_hasGoodOperands_48 post (oy i) cn ck fp (nI np) ob hr sp ix sz pf sc st kd pl wd tm dg dc ss pc op ox oy oz ps jp oi pa pt sh lc rc dr := by
      intro a
      unfold wX_hasGoodOperands_48
      exact xi_sort (fun b => br_f (by decide) (h1 ⟨a, b⟩)) (fun b => br_t rfl (h0 (fun w => b w.2)))
    exact br_f (by decide) (br_f (by decide) (br_c (fun a => k (Or.inl a)) (fun a => xi_sort (fun b => br_f (by decide) (k (Or.inr b))) (fun b => br_t rfl (h0 (fun w => w.1.elim a b))))))
  · rw [go_5] at h1 h0
    have k : (ox i = 16 ∨ ft_s kd (ox i) 1) → wX_hasGoodOperands_48 post (oy i) cn ck fp (nI np) ob hr sp ix sz pf sc st kd pl wd tm dg dc ss pc op ox oy oz ps jp oi pa pt sh lc rc dr := by
      intro a
      unfold wX_hasGoodOperands_48
      exact xi_sort (fun b => br_f (by decide) (h1 ⟨a, b⟩)) (fun b => br_t rfl (h0 (fun w => b w.2)))
    exact br_f (by decide) (br_f (by decide) (br_c (fun a => k (Or.inl a)) (fun a => xi_sort (fun b => br_f (by decide) (k (Or.inr b))) (fun b => br_t rfl (h0 (fun w => w.1.elim a b))))))
  · rw [go_6] at h1 h0
    have k : (ox i = 16 ∨ ft_s kd (ox i) 1) → wX_hasGoodOperands_48 post (oy i) cn ck fp (nI np) ob hr sp ix sz pf sc st kd pl wd tm dg dc ss pc op ox oy oz ps jp oi pa pt sh lc rc dr := by
      intro a
      unfold wX_hasGoodOperands_48
      exact xi_sort (fun b => br_f (by decide) (h1 ⟨a, b⟩)) (fun b => br_t rfl (h0 (fun w => b w.2)))
    exact br_f (by decide) (br_f (by decide) (br_c (fun a => k (Or.inl a)) (fun a => xi_sort (fun b => br_f (by decide) (k (Or.inr b))) (fun b => br_t rfl (h0 (fun w => w.1.elim a b))))))
  · rw [go_7] at h1 h0
    have k : (ox i = 16 ∨ ft_s kd (ox i) 1) → wX_hasGoodOperands_48 post (oy i) cn ck fp (nI np) ob hr sp ix sz pf sc st kd pl wd tm dg dc ss pc op ox oy oz ps jp oi pa pt sh lc rc dr := by
      intro a
      unfold wX_hasGoodOperands_48
      exact xi_sort (fun b => br_f (by decide) (h1 ⟨a, b⟩)) (fun b => br_t rfl (h0 (fun w => b w.2)))
    exact br_f (by decide) (br_f (by decide) (br_c (fun a => k (Or.inl a)) (fun a => xi_sort (fun b => br_f (by decide) (k (Or.inr b))) (fun b => br_t rfl (h0 (fun w => w.1.elim a b))))))
  · rw [go_8] at h1 h0
    have k : (ox i = 16 ∨ ft_s kd (ox i) 1) → wX_hasGoodOperands_48 post (oy i) cn ck fp (nI np) ob hr sp ix sz pf sc st kd pl wd tm dg dc ss pc op ox oy oz ps jp oi pa pt sh lc rc dr := by
      intro a
      unfold wX_hasGoodOperands_48
      exact xi_sort (fun b => br_f (by decide) (h1 ⟨a, b⟩)) (fun b => br_t rfl (h0 (fun w => b w.2)))
    exact br_f (by decide) (br_f (by decide) (br_c (fun a => k (Or.inl a)) (fun a => xi_sort (fun b => br_f (by decide) (k (Or.inr b))) (fun b => br_t rfl (h0 (fun w => w.1.elim a b))))))
  · rw [go_9] at h1 h0
    have k : (ox i = 16 ∨ ft_s kd (ox i) 1) → wX_hasGoodOperands_48 post (oy i) cn ck fp (nI np) ob hr sp ix sz pf sc st kd pl wd tm dg dc ss pc op ox oy oz ps jp oi pa pt sh lc rc dr := by
      intro a
      unfold wX_hasGoodOperands_48
      exact xi_sort (fun b => br_f (by decide) (h1 ⟨a, b⟩)) (fun b => br_t rfl (h0 (fun w => b w.2)))
    exact br_f (by decide) (br_f (by decide) (br_c (fun a => k (Or.inl a)) (fun a => xi_sort (fun b => br_f (by decide) (k (Or.inr b))) (fun b => br_t rfl (h0 (fun w => w.1.elim a b))))))
  · rw [go_10, gz_q] at h1 h0
    have k : ft_c kd (ox i) → ft_c kd (oy i) → (vp_in (nI i) 48 ∧ ((oz (nI i).toNatClampNeg < 0 → post 0) ∧ (¬ oz (nI i).toNatClampNeg < 0 → (vp_in (nI i) 48 ∧ ((5 < oz (nI i).toNatClampNeg → post 0) ∧ (¬ 5 < oz (nI i).toNatClampNeg → post 1)))))) := by
      intro a b
      rw [ci]
      exact ⟨v, br_c (fun c => h0 (fun w => w.2.2.1 c)) (fun c => ⟨v, br_c (fun d => h0 (fun w => w.2.2.2 d)) (fun d => h1 ⟨a, b, c, d⟩)⟩)⟩
    exact br_f (by decide) (br_t (by decide) (br_f (by decide) (br_f (by decide) (br_f (by decide) (br_f (by decide) (br_f (by decide) (br_f (by decide) (br_f (by decide) (br_f (by decide) (br_f (by decide) (br_f (by decide) (br_f (by decide) (br_t rfl (xf_cmp (fun a => br_f (by decide) (xf_cmp (fun b => br_f (by decide) (k a b)) (fun b => br_t rfl (h0 (fun w => b w.2.1))))) (fun a => br_t rfl (h0 (fun w => a w.1)))))))))))))))))
  · exact br_f (by decide) (br_t (by decide) (br_f (by decide) (br_f (by decide) (br_f (by decide) (br_f (by decide) (br_f (by decide) (br_f (by decide) (br_f (by decide) (br_f (by decide) (br_f (by decide) (br_f (by decide) (br_f (by decide) (br_f (by decide) (br_t rfl (h1 go_11)))))))))))))))
  · rw [go_12] at h1 h0
    exact br_f (by decide) (br_t (by decide) (br_f (by decide) (br_f (by decide) (br_f (by decide) (br_f (by decide) (br_f (by decide) (br_f (by decide) (br_f (by decide) (br_f (by decide) (br_f (by decide) (br_f (by decide) (br_f (by decide) (br_f (by decide) (br_f (by decide) (br_t rfl (xf_cmp (fun a => ⟨nb_1, h1 a⟩) (fun a => ⟨nb_0, h0 a⟩)))))))))))))))))
  · exact br_f (by decide) (br_t (by decide) (br_f (by decide) (br_f (by decide) (br_f (by decide) (br_f (by decide) (br_f (by decide) (br_f (by decide) (br_f (by decide) (br_f (by decide) (br_f (by decide) (br_f (by decide) (br_f (by decide) (br_f (by decide) (br_f (by decide) (br_f (by decide) (br_t rfl (h1 go_13)))))))))))))))))
  · exact br_f (by decide) (br_t (by decide) (br_f (by decide) (br_f (by decide) (br_f (by decide) (br_f (by decide) (br_f (by decide) (br_f (by decide) (br_f (by decide) (br_f (by decide) (br_f (by decide) (br_f (by decide) (br_f (by decide) (br_f (by decide) (br_f (by decide) (br_f (by decide) (br_f (by decide) (br_t rfl (h1 go_14))))))))))))))))))
  · rw [go_15] at h1 h0
    have k : wX_hasGoodOperands_245 post (ox i) (oy i) cn ck fp (nI np) ob hr sp ix sz pf sc st kd pl wd tm dg dc ss pc op ox oy oz ps jp oi pa pt sh lc rc dr := by
      unfold wX_hasGoodOperands_245
      refine xf_par hnp (fun a => br_f (by decide) (xf_par hnp (fun b => br_f (by decide) ?_) (fun b => br_t rfl (h0 ?_)))) (fun a => br_t rfl (h0 ?_))
      · obtain ⟨a, ea, ha⟩ := a
        obtain ⟨b, eb, hb⟩ := b
        rw [ea, eb] at h1 h0 ⊢
        refine br_c (fun c => h0 ?_) (fun c => h1 ⟨a, b, rfl, rfl, Nat.le_of_not_lt (fun w => c (nI_lt w (by omega))), hb⟩)
        rintro ⟨a', b', e3, e4, w1, w2⟩
        rw [e3, e4] at c
        exact nI_nlt w1 (by omega) c
      · rintro ⟨a', b', e3, e4, w1, w2⟩
        exact b ⟨b', e4, w2⟩
      · rintro ⟨a', b', e3, e4, w1, w2⟩
        exact a ⟨a', e3, by omega⟩
    exact br_f (by decide) (br_t (by decide) (br_f (by decide) (br_f (by decide) (br_f (by decide) (br_f (by decide) (br_f (by decide) (br_f (by decide) (br_f (by decide) (br_f (by decide) (br_f (by decide) (br_f (by decide) (br_f (by decide) (br_f (by decide) (br_f (by decide) (br_f (by decide) (br_f (by decide) (br_f (by decide) (br_t rfl (k)))))))))))))))))))
  · rw [go_16] at h1 h0
    have k : wX_hasGoodOperands_245 post (ox i) (oy i) cn ck fp (nI np) ob hr sp ix sz pf sc st kd pl wd tm dg dc ss pc op ox oy oz ps jp oi pa pt sh lc rc dr := by
      unfold wX_hasGoodOperands_245
      refine xf_par hnp (fun a => br_f (by decide) (xf_par hnp (fun b => br_f (by decide) ?_) (fun b => br_t rfl (h0 ?_)))) (fun a => br_t rfl (h0 ?_))
      · obtain ⟨a, ea, ha⟩ := a
        obtain ⟨b, eb, hb⟩ := b
        rw [ea, eb] at h1 h0 ⊢
        refine br_c (fun c => h0 ?_) (fun c => h1 ⟨a, b, rfl, rfl, Nat.le_of_not_lt (fun w => c (nI_lt w (by omega))), hb⟩)
        rintro ⟨a', b', e3, e4, w1, w2⟩
        rw [e3, e4] at c
        exact nI_nlt w1 (by omega) c
      · rintro ⟨a', b', e3, e4, w1, w2⟩
        exact b ⟨b', e4, w2⟩
      · rintro ⟨a', b', e3, e4, w1, w2⟩
        exact a ⟨a', e3, by omega⟩
    exact br_f (by decide) (br_t (by decide) (br_f (by decide) (br_f (by decide) (br_f (by decide) (br_f (by decide) (br_f (by decide) (br_f (by decide) (br_f (by decide) (br_f (by decide) (br_f (by decide) (br_f (by decide) (br_f (by decide) (br_f (by decide) (br_f (by decide) (br_f (by decide) (br_f (by decide) (br_f (by decide) (br_f (by decide) (br_t rfl (k))))))))))))))))))))
  · rw [go_17] at h1 h0
    exact br_f (by decide) (br_t (by decide) (br_f (by decide) (br_f (by decide) (br_f (by decide) (br_f (by decide) (br_f (by decide) (br_f (by decide) (br_f (by decide) (br_f (by decide) (br_f (by decide) (br_f (by decide) (br_f (by decide) (br_f (by decide) (br_f (by decide) (br_f (by decide) (br_f (by decide) (br_f (by decide) (br_f (by decide) (br_f (by decide) (br_t rfl (xf_par hnp (fun a => ⟨nb_1, h1 a⟩) (fun a => ⟨nb_0, h0 a⟩))))))))))))))))))))))
  · exact br_f (by decide) (br_t (by decide) (br_f (by decide) (br_f (by decide) (br_f (by decide) (br_f (by decide) (br_f (by decide) (br_f (by decide) (br_f (by decide) (br_f (by decide) (br_f (by decide) (br_f (by decide) (br_f (by decide) (br_f (by decide) (br_f (by decide) (br_f (by decide) (br_f (by decide) (br_f (by decide) (br_f (by decide) (br_f (by decide) (br_f (by decide) (br_t rfl (h1 go_18))))))))))))))))))))))
  · rw [go_19] at h1 h0
    exact br_f (by decide) (br_t (by decide) (br_f (by decide) (br_f (by decide) (br_f (by decide) (br_f (by decide) (br_f (by decide) (br_f (by decide) (br_f (by decide) (br_f (by decide) (br_f (by decide) (br_f (by decide) (br_f (by decide) (br_f (by decide) (br_f (by decide) (br_f (by decide) (br_f (by decide) (br_f (by decide) (br_f (by decide) (br_f (by decide) (br_f (by decide) (br_f (by decide) (br_t rfl (br_c (fun a => h1 (Or.inl a)) (fun a => xi_item (fun b => br_f (by decide) (h1 (Or.inr b))) (fun b => br_t rfl (h0 (fun w => w.elim a b)))))))))))))))))))))))))))
  · rw [go_20] at h1 h0
    exact br_f (by decide) (br_t (by decide) (br_f (by decide) (br_f (by decide) (br_f (by decide) (br_f (by decide) (br_f (by decide) (br_f (by decide) (br_f (by decide) (br_f (by decide) (br_f (by decide) (br_f (by decide) (br_f (by decide) (br_f (by decide) (br_f (by decide) (br_f (by decide) (br_f (by decide) (br_f (by decide) (br_f (by decide) (br_f (by decide) (br_f (by decide) (br_f (by decide) (br_f (by decide) (br_t rfl (br_c (fun a => h1 (Or.inl a)) (fun a => xi_sort (fun b => br_f (by decide) (h1 (Or.inr b))) (fun b => br_t rfl (h0 (fun w => w.elim a b))))))))))))))))))))))))))))
  · exact br_f (by decide) (br_t (by decide) (br_f (by decide) (br_f (by decide) (br_f (by decide) (br_f (by decide) (br_f (by decide) (br_f (by decide) (br_f (by decide) (br_f (by decide) (br_f (by decide) (br_f (by decide) (br_f (by decide) (br_f (by decide) (br_f (by decide) (br_f (by decide) (br_f (by decide) (br_f (by decide) (br_f (by decide) (br_f (by decide) (br_f (by decide) (br_f (by decide) (br_f (by decide) (br_f (by decide) (br_t rfl (h1 go_21)))))))))))))))))))))))))
  · rw [go_22] at h1 h0
    exact br_f (by decide) (br_t (by decide) (br_f (by decide) (br_f (by decide) (br_f (by decide) (br_f (by decide) (br_f (by decide) (br_f (by decide) (br_f (by decide) (br_f (by decide) (br_f (by decide) (br_f (by decide) (br_f (by decide) (br_f (by decide) (br_f (by decide) (br_f (by decide) (br_f (by decide) (br_f (by decide) (br_f (by decide) (br_f (by decide) (br_f (by decide) (br_f (by decide) (br_f (by decide) (br_f (by decide) (br_f (by decide) (br_t rfl (xi_item (fun a => br_f (by decide) (xi_sort (fun b => br_f (by decide) (h1 ⟨a, b⟩)) (fun b => br_t rfl (h0 (fun w => b w.2))))) (fun a => br_t rfl (h0 (fun w => a w.1)))))))))))))))))))))))))))))
theorem yf_all {post : Int32 → Prop} {n i o : Nat} (hA : it_A kd pl wd tm dg dc ss pc ln sn sd) (hn : n ≤ 48) (hi : i < 48) (ho : o ≤ 22) (e1 : op i = nI o) (enp : np = tb_z op n) (h1 : ft_G kd np o (ox i) (oy i) (oz i) → post 1) (h0 : ¬ ft_G kd np o (ox i) (oy i) (oz i) → post 0) : wpY_fits post (nI n, fp, ck, pf, hr, sp, ix, sc, ye, sz, yj, st, kd, pl, ln, dc, tm, sn, sd, op, ox, oy, oz, sh, ch, oth, lw, hg, le, bk, fm, vy) (nI i) := by
  have v : vp_in (nI i) 48 := vp_in_nI hi (by decide)
  have ci : (nI i).toNatClampNeg = i := nI_clamp (by omega)
  have hnp : np < 2 ^ 31 := by have := tb_le op n; omega
  refine ⟨v, nm_r (by rw [ci, e1]) ⟨v, nm_r (by rw [ci]) ⟨v, nm_r (by rw [ci]) ?_⟩⟩⟩
  rcases (show o = 0 ∨ o = 1 ∨ o = 2 ∨ o = 3 ∨ o = 4 ∨ o = 5 ∨ o = 6 ∨ o = 7 ∨ o = 8 ∨ o = 9 ∨ o = 10 ∨ o = 11 ∨ o = 12 ∨ o = 13 ∨ o = 14 ∨ o = 15 ∨ o = 16 ∨ o = 17 ∨ o = 18 ∨ o = 19 ∨ o = 20 ∨ o = 21 ∨ o = 22 by omega) with e | e | e | e | e | e | e | e | e | e | e | e | e | e | e | e | e | e | e | e | e | e | e <;> subst e
  · exact br_f (by decide) (yi_in (fun a b => absurd a (by decide)) (fun _ => br_t rfl (br_f (by decide) (br_f (by decide) (br_f (by decide) (br_f (by decide) (br_f (by decide) (br_f (by decide) (br_f (by decide) (br_f (by decide) (h1 go_0)))))))))))
  · rw [go_1] at h1 h0
    have k : (ox i = 16 ∨ ft_i kd (ox i)) → wY_fits_41 post (oy i) (nI n) fp ck pf hr sp ix sc ye sz yj st kd pl ln dc tm sn sd op ox oy oz sh ch oth lw hg le bk fm vy := by
      intro a
      unfold wY_fits_41
      exact yi_item (fun b => br_f (by decide) (h1 ⟨a, b⟩)) (fun b => br_t rfl (h0 (fun w => b w.2)))
    exact br_t rfl (br_c (fun a => k (Or.inl a)) (fun a => yi_item (fun b => br_f (by decide) (k (Or.inr b))) (fun b => br_t rfl (h0 (fun w => w.1.elim a b)))))
  · rw [go_2] at h1 h0
    have k : (ox i = 16 ∨ ft_s kd (ox i) 1) → wY_fits_81 post (oy i) (nI n) fp ck pf hr sp ix sc ye sz yj st kd pl ln dc tm sn sd op ox oy oz sh ch oth lw hg le bk fm vy := by
      intro a
      unfold wY_fits_81
      exact yi_sort (by decide) (fun b => br_f (by decide) (h1 ⟨a, b⟩)) (fun b => br_t rfl (h0 (fun w => b w.2)))
    exact br_f (by decide) (yi_in (fun _ _ => br_f (by decide) (br_c (fun a => k (Or.inl a)) (fun a => yi_sort (by decide) (fun b => br_f (by decide) (k (Or.inr b))) (fun b => br_t rfl (h0 (fun w => w.1.elim a b)))))) (fun w => absurd ⟨by decide, by decide⟩ w))
  · rw [go_3] at h1 h0
    have k : (ox i = 16 ∨ ft_s kd (ox i) 1) → wY_fits_81 post (oy i) (nI n) fp ck pf hr sp ix sc ye sz yj st kd pl ln dc tm sn sd op ox oy oz sh ch oth lw hg le bk fm vy := by
      intro a
      unfold wY_fits_81
      exact yi_sort (by decide) (fun b => br_f (by decide) (h1 ⟨a, b⟩)) (fun b => br_t rfl (h0 (fun w => b w.2)))
    exact br_f (by decide) (yi_in (fun _ _ => br_f (by decide) (br_c (fun a => k (Or.inl a)) (fun a => yi_sort (by decide) (fun b => br_f (by decide) (k (Or.inr b))) (fun b => br_t rfl (h0 (fun w => w.1.elim a b)))))) (fun w => absurd ⟨by decide, by decide⟩ w))
  · rw [go_4] at h1 h0
    have k : (ox i = 16 ∨ ft_s kd (ox i) 1) → wY_fits_81 post (oy i) (nI n) fp ck pf hr sp ix sc ye sz yj st kd pl ln dc tm sn sd op ox oy oz sh ch oth lw hg le bk fm vy := by
      intro a
      unfold wY_fits_81
      exact yi_sort (by decide) (fun b => br_f (by decide) (h1 ⟨a, b⟩)) (fun b => br_t rfl (h0 (fun w => b w.2)))
    exact br_f (by decide) (yi_in (fun _ _ => br_f (by decide) (br_c (fun a => k (Or.inl a)) (fun a => yi_sort (by decide) (fun b => br_f (by decide) (k (Or.inr b))) (fun b => br_t rfl (h0 (fun w => w.1.elim a b)))))) (fun w => absurd ⟨by decide, by decide⟩ w))
  · rw [go_5] at h1 h0
    have k : (ox i = 16 ∨ ft_s kd (ox i) 1) → wY_fits_81 post (oy i) (nI n) fp ck pf hr sp ix sc ye sz yj st kd pl ln dc tm sn sd op ox oy oz sh ch oth lw hg le bk fm vy := by
      intro a
      unfold wY_fits_81
      exact yi_sort (by decide) (fun b => br_f (by decide) (h1 ⟨a, b⟩)) (fun b => br_t rfl (h0 (fun w => b w.2)))
    exact br_f (by decide) (yi_in (fun _ _ => br_f (by decide) (br_c (fun a => k (Or.inl a)) (fun a => yi_sort (by decide) (fun b => br_f (by decide) (k (Or.inr b))) (fun b => br_t rfl (h0 (fun w => w.1.elim a b)))))) (fun w => absurd ⟨by decide, by decide⟩ w))
  · rw [go_6] at h1 h0
    have k : (ox i = 16 ∨ ft_s kd (ox i) 1) → wY_fits_81 post (oy i) (nI n) fp ck pf hr sp ix sc ye sz yj st kd pl ln dc tm sn sd op ox oy oz sh ch oth lw hg le bk fm vy := by
      intro a
      unfold wY_fits_81
      exact yi_sort (by decide) (fun b => br_f (by decide) (h1 ⟨a, b⟩)) (fun b => br_t rfl (h0 (fun w => b w.2)))
    exact br_f (by decide) (yi_in (fun _ _ => br_f (by decide) (br_c (fun a => k (Or.inl a)) (fun a => yi_sort (by decide) (fun b => br_f (by decide) (k (Or.inr b))) (fun b => br_t rfl (h0 (fun w => w.1.elim a b)))))) (fun w => absurd ⟨by decide, by decide⟩ w))
  · rw [go_7] at h1 h0
    have k : (ox i = 16 ∨ ft_s kd (ox i) 1) → wY_fits_81 post (oy i) (nI n) fp ck pf hr sp ix sc ye sz yj st kd pl ln dc tm sn sd op ox oy oz sh ch oth lw hg le bk fm vy := by
      intro a
      unfold wY_fits_81
      exact yi_sort (by decide) (fun b => br_f (by decide) (h1 ⟨a, b⟩)) (fun b => br_t rfl (h0 (fun w => b w.2)))
    exact br_f (by decide) (yi_in (fun _ _ => br_f (by decide) (br_c (fun a => k (Or.inl a)) (fun a => yi_sort (by decide) (fun b => br_f (by decide) (k (Or.inr b))) (fun b => br_t rfl (h0 (fun w => w.1.elim a b)))))) (fun w => absurd ⟨by decide, by decide⟩ w))
  · rw [go_8] at h1 h0
    have k : (ox i = 16 ∨ ft_s kd (ox i) 1) → wY_fits_81 post (oy i) (nI n) fp ck pf hr sp ix sc ye sz yj st kd pl ln dc tm sn sd op ox oy oz sh ch oth lw hg le bk fm vy := by
      intro a
      unfold wY_fits_81
      exact yi_sort (by decide) (fun b => br_f (by decide) (h1 ⟨a, b⟩)) (fun b => br_t rfl (h0 (fun w => b w.2)))
    exact br_f (by decide) (yi_in (fun _ _ => br_f (by decide) (br_c (fun a => k (Or.inl a)) (fun a => yi_sort (by decide) (fun b => br_f (by decide) (k (Or.inr b))) (fun b => br_t rfl (h0 (fun w => w.1.elim a b)))))) (fun w => absurd ⟨by decide, by decide⟩ w))
  · rw [go_9] at h1 h0
    have k : (ox i = 16 ∨ ft_s kd (ox i) 1) → wY_fits_81 post (oy i) (nI n) fp ck pf hr sp ix sc ye sz yj st kd pl ln dc tm sn sd op ox oy oz sh ch oth lw hg le bk fm vy := by
      intro a
      unfold wY_fits_81
      exact yi_sort (by decide) (fun b => br_f (by decide) (h1 ⟨a, b⟩)) (fun b => br_t rfl (h0 (fun w => b w.2)))
    exact br_f (by decide) (yi_in (fun _ _ => br_f (by decide) (br_c (fun a => k (Or.inl a)) (fun a => yi_sort (by decide) (fun b => br_f (by decide) (k (Or.inr b))) (fun b => br_t rfl (h0 (fun w => w.1.elim a b)))))) (fun w => absurd ⟨by decide, by decide⟩ w))
  · rw [go_10, gz_q, gc_iff hA, gc_iff hA] at h1 h0
    have k : ft_i kd (ox i) → ft_i kd (oy i) → ¬ ft_s kd (ox i) 3 → ¬ ft_s kd (oy i) 3 → (vp_in (nI i) 48 ∧ (wpY_in (fun r_400 => ((r_400 = 0 → post 0) ∧ (¬ r_400 = 0 → post 1))) (oz (nI i).toNatClampNeg) 0 5)) := by
      intro a b c d
      rw [ci]
      refine ⟨v, yi_in (fun p q => br_f (by decide) (h1 ⟨⟨a, c⟩, ⟨b, d⟩, Int32.not_lt.mpr p, Int32.not_lt.mpr q⟩)) (fun w => br_t rfl (h0 (fun u => w ⟨Int32.not_lt.mp u.2.2.1, Int32.not_lt.mp u.2.2.2⟩)))⟩
    exact br_f (by decide) (yi_in (fun a b => absurd b (by decide)) (fun _ => br_t rfl (br_t rfl (yi_item (fun a => br_f (by decide) (yi_item (fun b => br_f (by decide) (yi_sort (by decide) (fun c => br_f (by decide) (h0 (fun w => w.1.2 c))) (fun c => br_t rfl (yi_sort (by decide) (fun d => br_f (by decide) (h0 (fun w => w.2.1.2 d))) (fun d => br_t rfl (k a b c d)))))) (fun b => br_t rfl (h0 (fun w => b w.2.1.1))))) (fun a => br_t rfl (h0 (fun w => a w.1.1)))))))
  · exact br_f (by decide) (yi_in (fun a b => absurd b (by decide)) (fun _ => br_t rfl (br_f (by decide) (br_f (by decide) (br_f (by decide) (br_f (by decide) (br_f (by decide) (br_f (by decide) (br_f (by decide) (br_f (by decide) (h1 go_11)))))))))))
  · rw [go_12] at h1 h0
    exact br_f (by decide) (yi_in (fun a b => absurd b (by decide)) (fun _ => br_t rfl (br_f (by decide) (br_t rfl (yi_sort (by decide) (fun a => br_f (by decide) (h1 (Or.inl a))) (fun a => br_t rfl (yi_sort (by decide) (fun b => br_f (by decide) (h1 (Or.inr b))) (fun b => br_t rfl (h0 (fun w => w.elim a b))))))))))
  · exact br_f (by decide) (yi_in (fun a b => absurd b (by decide)) (fun _ => br_t rfl (br_f (by decide) (br_f (by decide) (br_f (by decide) (br_f (by decide) (br_f (by decide) (br_f (by decide) (br_f (by decide) (br_f (by decide) (h1 go_13)))))))))))
  · exact br_f (by decide) (yi_in (fun a b => absurd b (by decide)) (fun _ => br_t rfl (br_f (by decide) (br_f (by decide) (br_f (by decide) (br_f (by decide) (br_f (by decide) (br_f (by decide) (br_f (by decide) (br_f (by decide) (h1 go_14)))))))))))
  · rw [go_15] at h1 h0
    have k : wY_fits_201 post (ox i) (oy i) (nI n) fp ck pf hr sp ix sc ye sz yj st kd pl ln dc tm sn sd op ox oy oz sh ch oth lw hg le bk fm vy := by
      refine br_c (fun a => h0 ?_) (fun a => br_c (fun b => h0 ?_) (fun b => yb_cnt hn (br_c (fun c => h0 ?_) (fun c => h1 ?_))))
      · rintro ⟨a', b', e3, e4, w1, w2⟩
        rw [e3] at a
        exact nI_pos (by omega) a
      · rintro ⟨a', b', e3, e4, w1, w2⟩
        rw [e3, e4] at b
        exact nI_nlt w1 (by omega) b
      · rintro ⟨a', b', e3, e4, w1, w2⟩
        rw [e4, ← enp] at c
        exact nI_ge w2 (by omega) c
      · obtain ⟨a', ha', ea⟩ := nI_of a
        have h0' : ¬ oy i < 0 := fun w => b (Int32.lt_of_lt_of_le w (by rw [ea]; exact nI_pos' ha'))
        obtain ⟨b', hb', eb⟩ := nI_of h0'
        rw [ea, eb] at b
        rw [eb, ← enp] at c
        exact ⟨a', b', ea, eb, Nat.le_of_not_lt (fun w => b (nI_lt w ha')), Nat.lt_of_not_le (fun w => c (nI_le w hb'))⟩
    exact br_f (by decide) (yi_in (fun a b => absurd b (by decide)) (fun _ => br_t rfl (br_f (by decide) (br_f (by decide) (br_t rfl (k))))))
  · rw [go_16] at h1 h0
    have k : wY_fits_201 post (ox i) (oy i) (nI n) fp ck pf hr sp ix sc ye sz yj st kd pl ln dc tm sn sd op ox oy oz sh ch oth lw hg le bk fm vy := by
      refine br_c (fun a => h0 ?_) (fun a => br_c (fun b => h0 ?_) (fun b => yb_cnt hn (br_c (fun c => h0 ?_) (fun c => h1 ?_))))
      · rintro ⟨a', b', e3, e4, w1, w2⟩
        rw [e3] at a
        exact nI_pos (by omega) a
      · rintro ⟨a', b', e3, e4, w1, w2⟩
        rw [e3, e4] at b
        exact nI_nlt w1 (by omega) b
      · rintro ⟨a', b', e3, e4, w1, w2⟩
        rw [e4, ← enp] at c
        exact nI_ge w2 (by omega) c
      · obtain ⟨a', ha', ea⟩ := nI_of a
        have h0' : ¬ oy i < 0 := fun w => b (Int32.lt_of_lt_of_le w (by rw [ea]; exact nI_pos' ha'))
        obtain ⟨b', hb', eb⟩ := nI_of h0'
        rw [ea, eb] at b
        rw [eb, ← enp] at c
        exact ⟨a', b', ea, eb, Nat.le_of_not_lt (fun w => b (nI_lt w ha')), Nat.lt_of_not_le (fun w => c (nI_le w hb'))⟩
    exact br_f (by decide) (yi_in (fun a b => absurd b (by decide)) (fun _ => br_t rfl (br_f (by decide) (br_f (by decide) (br_f (by decide) (br_t rfl (k)))))))
  · rw [go_17] at h1 h0
    refine br_f (by decide) (yi_in (fun a b => absurd b (by decide)) (fun _ => br_t rfl (br_f (by decide) (br_f (by decide) (br_f (by decide) (br_f (by decide) (br_t rfl (br_c (fun a => h0 ?_) (fun a => yb_cnt hn (br_c (fun c => h0 ?_) (fun c => h1 ?_)))))))))))
    · rintro ⟨a', e3, w2⟩
      rw [e3] at a
      exact nI_pos (by omega) a
    · rintro ⟨a', e3, w2⟩
      rw [e3, ← enp] at c
      exact nI_ge w2 (by omega) c
    · obtain ⟨a', ha', ea⟩ := nI_of a
      rw [ea, ← enp] at c
      exact ⟨a', ea, Nat.lt_of_not_le (fun w => c (nI_le w ha'))⟩
  · exact br_f (by decide) (yi_in (fun a b => absurd b (by decide)) (fun _ => br_t rfl (br_f (by decide) (br_f (by decide) (br_f (by decide) (br_f (by decide) (br_f (by decide) (br_f (by decide) (br_f (by decide) (br_f (by decide) (h1 go_18)))))))))))
  · rw [go_19] at h1 h0
    exact br_f (by decide) (yi_in (fun a b => absurd b (by decide)) (fun _ => br_t rfl (br_f (by decide) (br_f (by decide) (br_f (by decide) (br_f (by decide) (br_f (by decide) (br_t rfl (br_c (fun a => h1 (Or.inl a)) (fun a => yi_item (fun b => br_f (by decide) (br_t rfl (h1 (Or.inr b)))) (fun b => br_t rfl (h0 (fun w => w.elim a b)))))))))))))
  · rw [go_20] at h1 h0
    refine br_f (by decide) (yi_in (fun a b => absurd b (by decide)) (fun _ => br_t rfl (br_f (by decide) (br_f (by decide) (br_f (by decide) (br_f (by decide) (br_f (by decide) (br_f (by decide) (br_t rfl (br_c (fun a => h1 (Or.inl a)) (fun a => yi_item (fun b => br_f (by decide) (br_f (by decide) ?_)) (fun b => br_t rfl (h0 ?_)))))))))))))
    · obtain ⟨j, hj, ej, hk⟩ := b
      rw [ej] at h1 h0 ⊢
      refine ⟨vp_in_nI hj (by decide), ?_⟩
      rw [nI_clamp (by omega)]
      refine br_c (fun c => h1 (Or.inr ⟨j, hj, rfl, c⟩)) (fun c => h0 ?_)
      rintro (w | ⟨j', hj', e, w⟩)
      · exact nI_16 hj w
      · rw [nI_eq (by omega) (by omega)] at e
        subst e
        exact c w
    · rintro (w | w)
      · exact a w
      · exact b (fs_i (by decide) w)
  · exact br_f (by decide) (yi_in (fun a b => absurd b (by decide)) (fun _ => br_t rfl (br_f (by decide) (br_f (by decide) (br_f (by decide) (br_f (by decide) (br_f (by decide) (br_f (by decide) (br_f (by decide) (br_f (by decide) (h1 go_21)))))))))))
  · rw [go_22] at h1 h0
    exact br_f (by decide) (yi_in (fun a b => absurd b (by decide)) (fun _ => br_t rfl (br_f (by decide) (br_f (by decide) (br_f (by decide) (br_f (by decide) (br_f (by decide) (br_f (by decide) (br_f (by decide) (br_t rfl (yi_item (fun a => br_f (by decide) (yi_sort (by decide) (fun b => br_f (by decide) (h1 ⟨a, b⟩)) (fun b => br_t rfl (h0 (fun w => b w.2))))) (fun a => br_t rfl (h0 (fun w => a w.1))))))))))))))
end
