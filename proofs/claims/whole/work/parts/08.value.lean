/-! valueAt of both sides -/
theorem vs_stp {v : Nat} {c : Int32} (hv : v < 1000000000) (hc : ¬ c < 0) : ((ar_l (v : Int) * 10) + c.toInt64) - ((ar_l (v : Int) * 10) + c.toInt64) / 1000000000 * 1000000000 = ar_l (((v * 10 + c.toNatClampNeg) % 1000000000 : Nat) : Int) := by
  obtain ⟨q, hq, rfl⟩ := nI_of hc
  rw [nI_clamp hq, nI_l hq, ar_N, ar_10, ar_mul, ar_add]
  exact ar_rm (a := v * 10 + q) (b := 1000000000) (by omega) (by decide)
theorem vs_x10 (v : Nat) : ar_l (v : Int) * 10 = ar_l ((v * 10 : Nat) : Int) := by
  rw [ar_10, ar_mul]
  rfl
theorem vs_9 {c : Int32} : 9 < c ↔ ¬ c ≤ 9 := Int32.not_le.symm
section
variable {cn ck fp pg ob hr sp ix sz pf sc ye yj : Int32}
variable {st kd pl wd tm dg dc ss pc op ox oy oz ps jp oi pa pt sh lc rc dr ln sn sd ch oth lw hg le bk fm vy : Nat → Int32}
variable {K A W T D B S L e j F : Nat}
theorem xv_143 {post : Int64 → Prop} {b : Bool} {m : Nat} (h : post (ar_l (ar_s b m))) : wX_valueAt_143 post (rd_b b) (ar_l (m : Int)) cn ck fp pg ob hr sp ix sz pf sc st kd pl wd tm dg dc ss pc op ox oy oz ps jp oi pa pt sh lc rc dr := by
  cases b with
  | false => exact br_t rfl h
  | true => exact br_f (by decide) (by rw [ar_neg]; exact h)
theorem xv_loop {post : Int64 → Prop} {g : Int32} (hj : j < 12) (hk : kd j = nI K) (hw : wd j = nI W) (hS : S ≤ 1) (hSW : S ≤ W) (hK1 : K = 1 → W - S ≤ 9) (hK3 : K ≠ 1 → S = 0) (hKr : K ≤ 3) (hF : F + W ≤ 96) (ok : st_ok st)
    (hg : (g = 0 ∧ K = 1) ∨ (¬ g = 0 ∧ K ≠ 1)) (h : post (ar_l (vl_v st K F W S))) : ∀ (d k : Nat) (x4 : Int32) (x6 : Int64) (x8 : Int32), S + k + d = W → x4 = rd_b (decide (K = 3) && vs_m st F (S + k)) → x6 = ar_l ((vs_f K st (F + S) k : Nat) : Int) → x8 = nI (S + k) →
    wX_valueAt_34 post (nI j) (nI F) g (nI S) cn ck fp pg ob hr sp ix sz pf sc st kd pl wd tm dg dc ss pc op ox oy oz ps jp oi pa pt sh lc rc dr (d + 1) x4 x6 x8
  | 0, k, x4, x6, x8, hd, h4, h6, h8 => by
    subst h4 h6 h8
    have v : vp_in (nI j) 12 := vp_in_nI hj (by decide)
    have ek : S + k = W := by omega
    have ek2 : k = W - S := by omega
    refine ⟨v, ?_⟩
    rw [nI_clamp (by omega), hw]
    refine br_t (nI_le (by omega) (by omega)) ?_
    unfold vl_v vl_m vl_s at h
    rw [← ek2] at h
    by_cases h0 : S = 0
    · subst h0
      refine br_t (nI_le (b := 0) (by omega) (by decide)) (xv_143 ?_)
      rw [ek]
      exact h
    · have h1 : S = 1 := by omega
      subst h1
      have hK : K = 1 := Classical.byContradiction fun z => h0 (hK3 z)
      subst hK
      refine br_f (nI_ge (a := 0) (by omega) (by omega)) ⟨vp_in_nI (by omega) (by decide), ?_⟩
      rw [nI_clamp (by omega)]
      refine br_c (fun c => xv_143 (b := true) ?_) (fun c => xv_143 (b := false) ?_)
      · rw [c] at h
        exact h
      · rw [show decide (st F = 11) = false from decide_eq_false c] at h
        exact h
  | d + 1, k, x4, x6, x8, hd, h4, h6, h8 => by
    subst h4 h6 h8
    have v : vp_in (nI j) 12 := vp_in_nI hj (by decide)
    have hvl : vs_f K st (F + S) k < 1000000000 := vs_lt st _ _ (fun z => by have := hK1 z; omega)
    refine ⟨v, ?_⟩
    rw [nI_clamp (show j < 2 ^ 31 by omega), hw]
    refine br_f (nI_ge (by omega) (by omega)) ?_
    rw [nI_add, nI_clamp (show F + (S + k) < 2 ^ 31 by omega)]
    refine ⟨vp_in_nI (by omega) (by decide), nm_e ?_⟩
    have eA : F + S + k = F + (S + k) := by omega
    have key : ∀ x6' : Int64, x6' = ar_l ((vs_f K st (F + S) (k + 1) : Nat) : Int) → wX_valueAt_94 post (wX_valueAt_34 post (nI j) (nI F) g (nI S) cn ck fp pg ob hr sp ix sz pf sc st kd pl wd tm dg dc ss pc op ox oy oz ps jp oi pa pt sh lc rc dr (d + 1)) (nI j) (nI F) g (rd_b (decide (K = 3) && vs_m st F (S + k))) (nI S) x6' (nI (S + k)) (st (F + (S + k))) cn ck fp pg ob hr sp ix sz pf sc st kd pl wd tm dg dc ss pc op ox oy oz ps jp oi pa pt sh lc rc dr := by
      intro x6' e6
      have IH : ∀ x4' : Int32, x4' = rd_b (decide (K = 3) && vs_m st F (S + (k + 1))) → wX_valueAt_34 post (nI j) (nI F) g (nI S) cn ck fp pg ob hr sp ix sz pf sc st kd pl wd tm dg dc ss pc op ox oy oz ps jp oi pa pt sh lc rc dr (d + 1) x4' x6' (nI (S + k) + 1) := fun x4' e4 =>
        xv_loop hj hk hw hS hSW hK1 hK3 hKr hF ok hg h d (k + 1) x4' x6' _ (by omega) e4 e6 (nI_1 _)
      have em : vs_m st F (S + (k + 1)) = (decide (st (F + (S + k)) = 11) || vs_m st F (S + k)) := rfl
      refine br_c (fun c => ⟨v, ?_⟩) (fun c => nm_e (IH _ ?_))
      · rw [nI_clamp (show j < 2 ^ 31 by omega), hk]
        by_cases h3 : K = 3
        · subst h3
          refine br_t rfl (nm_e (IH _ ?_))
          rw [em, c]
          rfl
        · refine br_f (fun z => h3 ((nI_eq (b := 3) (by omega) (by decide)).mp z)) (nm_e (IH _ ?_))
          rw [show decide (K = 3) = false from decide_eq_false h3]
          rfl
      · rw [em, show decide (st (F + (S + k)) = 11) = false from decide_eq_false c, Bool.false_or]
    have es : vs_f K st (F + S) (k + 1) = if st (F + (S + k)) ≤ 9 then (vs_f K st (F + S) k * 10 + (st (F + (S + k))).toNatClampNeg) % 1000000000 else if K = 1 then vs_f K st (F + S) k * 10 else vs_f K st (F + S) k := by
      rw [← eA]
      rfl
    by_cases hc : st (F + (S + k)) ≤ 9
    · rw [if_pos hc] at es
      refine br_f (fun z => vs_9.mp z hc) ⟨by decide, nm_e (key _ ?_)⟩
      rw [es]
      exact vs_stp hvl (ok _)
    · rw [if_neg hc] at es
      refine br_t (vs_9.mpr hc) ?_
      rcases hg with ⟨g0, gK⟩ | ⟨g0, gK⟩
      · rw [if_pos gK] at es
        refine br_t g0 (nm_e (key _ ?_))
        rw [es]
        exact vs_x10 _
      · rw [if_neg gK] at es
        refine br_f g0 (key _ ?_)
        rw [es]
theorem xv_value {post : Int64 → Prop} (hj : j < 12) (R : it_R kd pl wd tm dg dc ss pc ln sn sd j K A W T D B S L) (hF : F + W ≤ 96) (ok : st_ok st) (h : post (ar_l (vl_v st K F W S))) : wpX_valueAt post (cn, ck, fp, pg, ob, hr, sp, ix, sz, pf, sc, st, kd, pl, wd, tm, dg, dc, ss, pc, op, ox, oy, oz, ps, jp, oi, pa, pt, sh, lc, rc, dr) (nI j) (nI F) := by
  obtain ⟨⟨r1, r2, r3, r4, r5, r6, r7, r8⟩, ⟨k1, k2, k3, k4, k5, k6, k7, k8, k9, k10, k11⟩, q1, q2, -⟩ := R
  have v : vp_in (nI j) 12 := vp_in_nI hj (by decide)
  have go : ∀ g : Int32, (g = 0 ∧ K = 1) ∨ (¬ g = 0 ∧ K ≠ 1) → wX_valueAt_15 post (nI j) (nI F) g cn ck fp pg ob hr sp ix sz pf sc st kd pl wd tm dg dc ss pc op ox oy oz ps jp oi pa pt sh lc rc dr := by
    intro g hg
    refine ⟨v, nm_e ?_⟩
    rw [nI_clamp (by omega), r7]
    refine ⟨W - S + 1, xv_loop hj r1 r3 k9 (by omega) (fun z => by have := (q1 z).2.1; omega) q2 k2 hF ok hg h (W - S) 0 _ _ _ (by omega) ?_ rfl rfl⟩
    by_cases h3 : K = 3
    · subst h3
      have := q2 (by decide)
      subst this
      rfl
    · rw [show decide (K = 3) = false from decide_eq_false h3]
      rfl
  refine ⟨v, ?_⟩
  rw [nI_clamp (by omega), r1]
  by_cases hK : K = 1
  · subst hK
    exact br_t rfl (go 0 (Or.inl ⟨rfl, rfl⟩))
  · exact br_f (fun z => hK ((nI_eq (b := 1) (by omega) (by decide)).mp z)) (go 1 (Or.inr ⟨by decide, hK⟩))
theorem yv_loop {post : Int64 → Prop} (hj : j < 12) (R : it_R kd pl wd tm dg dc ss pc ln sn sd j K A W T D B S L) (hF : F + W ≤ 96) (ok : st_ok st)
    (h : post (ar_l (vl_v st K F W S))) : ∀ (d k : Nat) (x5 : Int64) (x7 : Int32) (x8 : Int32), S + k + d = W → x7 = rd_b (vl_s st K F (S + k) S) → x5 = ar_l ((vs_f K st (F + S) k : Nat) : Int) → x8 = nI (S + k) →
    wY_valueAt_23 post (nI j) (nI F) (nI W) cn fp ck pf hr sp ix sc ye sz yj st kd pl ln dc tm sn sd op ox oy oz sh ch oth lw hg le bk fm vy (d + 1) x5 x7 x8
  | 0, k, x5, x7, x8, hd, h7, h5, h8 => by
    subst h7 h5 h8
    obtain ⟨-, ⟨k1, k2, k3, k4, k5, k6, k7, k8, k9, k10, k11⟩, -⟩ := R
    have ek : S + k = W := by omega
    have ek2 : k = W - S := by omega
    refine br_t (nI_le (by omega) (by omega)) ?_
    unfold vl_v vl_m at h
    rw [← ek2] at h
    rw [ek]
    cases hb : vl_s st K F W S with
    | false =>
      rw [hb] at h
      exact br_t rfl h
    | true =>
      rw [hb] at h
      exact br_f (by decide) (by rw [ar_neg]; exact h)
  | d + 1, k, x5, x7, x8, hd, h7, h5, h8 => by
    subst h7 h5 h8
    have R0 := R
    obtain ⟨⟨r1, -⟩, ⟨k1, k2, k3, k4, k5, k6, k7, k8, k9, k10, k11⟩, q1, q2, -⟩ := R0
    have v : vp_in (nI j) 12 := vp_in_nI hj (by decide)
    have hvl : vs_f K st (F + S) k < 1000000000 := vs_lt st _ _ (fun z => by have := (q1 z).2.1; omega)
    refine br_f (nI_ge (by omega) (by omega)) ?_
    rw [nI_add, nI_clamp (show F + (S + k) < 2 ^ 31 by omega)]
    refine ⟨vp_in_nI (by omega) (by decide), nm_e (yi_sign hj R ?_)⟩
    have eA : F + S + k = F + (S + k) := by omega
    have go : wY_valueAt_58 post (wY_valueAt_23 post (nI j) (nI F) (nI W) cn fp ck pf hr sp ix sc ye sz yj st kd pl ln dc tm sn sd op ox oy oz sh ch oth lw hg le bk fm vy (d + 1)) (nI j) (nI F) (nI W) (ar_l ((vs_f K st (F + S) k : Nat) : Int)) (rd_b (vl_s st K F (S + k) S)) (nI (S + k)) (st (F + (S + k))) cn fp ck pf hr sp ix sc ye sz yj st kd pl ln dc tm sn sd op ox oy oz sh ch oth lw hg le bk fm vy := by
      have key : ∀ x5' : Int64, x5' = ar_l ((vs_f K st (F + S) (k + 1) : Nat) : Int) → wY_valueAt_115 post (wY_valueAt_23 post (nI j) (nI F) (nI W) cn fp ck pf hr sp ix sc ye sz yj st kd pl ln dc tm sn sd op ox oy oz sh ch oth lw hg le bk fm vy (d + 1)) (nI j) (nI F) (nI W) x5' (rd_b (vl_s st K F (S + k) S)) (nI (S + k)) (st (F + (S + k))) 0 cn fp ck pf hr sp ix sc ye sz yj st kd pl ln dc tm sn sd op ox oy oz sh ch oth lw hg le bk fm vy := by
        intro x5' e5
        have IH : ∀ x7' : Int32, x7' = rd_b (vl_s st K F (S + (k + 1)) S) → wY_valueAt_23 post (nI j) (nI F) (nI W) cn fp ck pf hr sp ix sc ye sz yj st kd pl ln dc tm sn sd op ox oy oz sh ch oth lw hg le bk fm vy (d + 1) x5' x7' (nI (S + k) + 1) := fun x7' e7 =>
          yv_loop hj R hF ok h d (k + 1) x5' x7' _ (by omega) e7 e5 (nI_1 _)
        have em : vs_m st F (S + (k + 1)) = (decide (st (F + (S + k)) = 11) || vs_m st F (S + k)) := rfl
        refine br_c (fun c => br_t rfl ⟨v, ?_⟩) (fun c => nm_e (IH _ ?_))
        · rw [nI_clamp (show j < 2 ^ 31 by omega), r1]
          by_cases h3 : K = 3
          · subst h3
            refine br_t rfl (nm_e (IH _ ?_))
            unfold vl_s
            rw [em, c, decide_eq_true (rfl : (11 : Int32) = 11), Bool.true_or, decide_eq_true (rfl : 3 = 3), Bool.and_true, Bool.or_true]
            rfl
          · refine br_f (fun z => h3 ((nI_eq (b := 3) (by omega) (by decide)).mp z)) (nm_e (IH _ ?_))
            unfold vl_s
            rw [show decide (K = 3) = false from decide_eq_false h3, Bool.false_and, Bool.false_and]
        · unfold vl_s
          rw [em, show decide (st (F + (S + k)) = 11) = false from decide_eq_false c, Bool.false_or]
      have es : vs_f K st (F + S) (k + 1) = if st (F + (S + k)) ≤ 9 then (vs_f K st (F + S) k * 10 + (st (F + (S + k))).toNatClampNeg) % 1000000000 else if K = 1 then vs_f K st (F + S) k * 10 else vs_f K st (F + S) k := by
        rw [← eA]
        rfl
      refine br_t rfl ?_
      by_cases hc : st (F + (S + k)) ≤ 9
      · rw [if_pos hc] at es
        refine br_f (fun z => ?_) ⟨by decide, nm_e (key _ ?_)⟩
        · exact absurd (Int32.le_trans z hc) (by decide)
        · rw [es]
          exact vs_stp hvl (ok _)
      · rw [if_neg hc] at es
        refine br_t ?_ (br_t rfl ⟨v, ?_⟩)
        · obtain ⟨q, hq, e⟩ := nI_of (ok (F + (S + k)))
          rw [e] at hc ⊢
          have : ¬ q ≤ 9 := fun z => hc (nI_le (b := 9) z (by decide))
          exact nI_le (a := 10) (by omega) hq
        · rw [nI_clamp (show j < 2 ^ 31 by omega), r1]
          by_cases hK : K = 1
          · rw [if_pos hK] at es
            subst hK
            refine br_t rfl (nm_e (key _ ?_))
            rw [es]
            exact vs_x10 _
          · rw [if_neg hK] at es
            refine br_f (fun z => hK ((nI_eq (b := 1) (by omega) (by decide)).mp z)) (key _ ?_)
            rw [es]
    by_cases h0 : S = 0
    · subst h0
      exact br_t rfl go
    · refine br_f (nI_ne0 (by omega) (by omega)) (br_f (nI_ne0 (by omega) (by omega)) go)
theorem yv_value {post : Int64 → Prop} (hj : j < 12) (R : it_R kd pl wd tm dg dc ss pc ln sn sd j K A W T D B S L) (he : 1 ≤ e) (he2 : e ≤ T) (ok : st_ok st) (h : post (ar_l (vl_v st K (A + (e - 1) * W) W S))) : wpY_valueAt post (cn, fp, ck, pf, hr, sp, ix, sc, ye, sz, yj, st, kd, pl, ln, dc, tm, sn, sd, op, ox, oy, oz, sh, ch, oth, lw, hg, le, bk, fm, vy) (nI j) (nI e) := by
  have R0 := R
  obtain ⟨⟨r1, -⟩, ⟨k1, k2, k3, k4, k5, k6, k7, k8, k9, k10, k11⟩, q1, q2, -⟩ := R0
  have hF : A + (e - 1) * W + W ≤ 96 := it_F k8 he he2
  unfold wpY_valueAt
  refine yi_spot hj R he ?_
  refine yi_width hj R ?_
  generalize A + (e - 1) * W = F at *
  by_cases h0 : S = 0
  · subst h0
    refine ⟨W + 1, yv_loop hj R hF ok h W 0 _ _ _ (by omega) ?_ rfl rfl⟩
    unfold vl_s
    rw [show vs_m st F (0 + 0) = false from rfl, Bool.and_false, Bool.or_false]
    rfl
  · have h1 : S = 1 := by omega
    subst h1
    have hK : K = 1 := Classical.byContradiction fun z => h0 (q2 z)
    subst hK
    obtain ⟨d, hd⟩ : ∃ d, W = 1 + d := ⟨W - 1, by omega⟩
    refine ⟨d + 1 + 1, ?_⟩
    refine br_f (nI_ge (a := 0) (by omega) (by omega)) ?_
    have hz : (nI F + 0) = nI F := Int32.add_zero _
    rw [hz, nI_clamp (show F < 2 ^ 31 by omega)]
    refine ⟨vp_in_nI (by omega) (by decide), nm_e (yi_sign hj R (br_f (nI_ne0 (by omega) (by omega)) (br_t rfl (br_f (by decide) (br_f (by decide) ?_)))))⟩
    have IH : ∀ x7' : Int32, x7' = rd_b (vl_s st 1 F (1 + 0) 1) → wY_valueAt_23 post (nI j) (nI F) (nI W) cn fp ck pf hr sp ix sc ye sz yj st kd pl ln dc tm sn sd op ox oy oz sh ch oth lw hg le bk fm vy (d + 1) 0 x7' (0 + 1) := fun x7' e7 =>
      yv_loop hj R hF ok h d 0 0 x7' _ (by omega) e7 rfl rfl
    refine br_c (fun c => br_f (by decide) (nm_e (IH _ ?_))) (fun c => nm_e (IH _ ?_))
    · unfold vl_s
      rw [c]
      rfl
    · unfold vl_s
      rw [show decide (st F = 11) = false from decide_eq_false c]
      rfl
end
