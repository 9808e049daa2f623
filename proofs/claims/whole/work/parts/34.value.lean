/-! value, output, the constructors -/
theorem iv_value {u : SX} {v : SY} (I : iv_R u v) (v1 v2 : Int32) : wpX_value (fun r => wpY_value (fun r' => r' = r ∧ iv_R u v) v v1 v2) u v1 v2 := by
  have I0 := I
  obtain ⟨cn, ck, fp, pg, ob, hr, sp, ix, sz, pf, sc, st, kd, pl, wd, tm, dg, dc, ss, pc, op, ox, oy, oz, ps, jp, oi, pa, pt, sh, lc, rc, dr⟩ := u
  obtain ⟨cn', fp', ck', pf', hr', sp', ix', sc', ye, sz', yj, st', kd', pl', ln, dc', tm', sn, sd, op', ox', oy', oz', sh', ch, oth, lw, hg, le, bk, fm, vy⟩ := v
  obtain ⟨⟨rfl, rfl, rfl, rfl, rfl, rfl, rfl, rfl, rfl, rfl, rfl, rfl, rfl, rfl, rfl, rfl, rfl⟩, ok, hA, ⟨n, hn, rfl, ho, hP⟩, hck, hsz⟩ := I
  unfold wpX_value
  refine xi_item (fun hi => br_f (by decide) ?_) (fun hi => br_t rfl ?_)
  · have hi0 := hi
    obtain ⟨j, hj, rfl, hk⟩ := hi
    have v12 : vp_in (nI j) 12 := vp_in_nI hj (by decide)
    have cj : (nI j).toNatClampNeg = j := nI_clamp (by omega)
    rcases hA j hj with z | ⟨K, A, W, T, D, B, S, L, R⟩
    · exact absurd z hk
    · have R0 := R
      obtain ⟨⟨r1, r2, r3, r4, r5, r6, r7, r8⟩, ⟨k1, k2, k3, k4, k5, k6, k7, k8, k9, k10, k11⟩, -⟩ := R0
      refine br_c (fun a => ?_) (fun a => ⟨v12, ?_⟩)
      · show wpY_value _ _ _ _
        unfold wpY_value
        exact yi_item (fun _ => br_f (by decide) ⟨v12, yi_in (fun p q => absurd p (Int32.not_le.mpr a)) (fun _ => br_t rfl ⟨rfl, I0⟩)⟩) (fun w => absurd hi0 w)
      · rw [cj, r4, r2, r3]
        refine br_c (fun b => ⟨v12, v12, ?_⟩) (fun b => ?_)
        · obtain ⟨e, he1, he2, rfl⟩ := (gn_in (p := v2) (lo := 1) (hi := T) (by decide) (by omega)).mpr ⟨a, Int32.not_lt.mpr b⟩
          have hF := it_F k8 he1 he2
          obtain ⟨c, rfl⟩ : ∃ c, e = c + 1 := ⟨e - 1, by omega⟩
          rw [nI_pred, pk_mul, nI_add]
          rw [Nat.add_sub_cancel] at hF
          refine xv_value hj R hF ok ?_
          show wpY_value _ _ _ _
          unfold wpY_value
          refine yi_item (fun _ => br_f (by decide) ⟨v12, ?_⟩) (fun w => absurd hi0 w)
          rw [cj, r4]
          exact yi_in (fun _ _ => br_f (by decide) (yv_value hj R he1 he2 ok ⟨rfl, I0⟩)) (fun w => absurd ⟨nI_le (a := 1) he1 (by omega), b⟩ w)
        · show wpY_value _ _ _ _
          unfold wpY_value
          refine yi_item (fun _ => br_f (by decide) ⟨v12, ?_⟩) (fun w => absurd hi0 w)
          rw [cj, r4]
          exact yi_in (fun p q => absurd q b) (fun _ => br_t rfl ⟨rfl, I0⟩)
  · show wpY_value _ _ _ _
    unfold wpY_value
    exact yi_item (fun w => absurd w hi) (fun _ => br_t rfl ⟨rfl, I0⟩)
theorem iv_output {u : SX} {v : SY} (I : iv_R u v) (v1 : Int32) : wpX_output (fun r => wpY_output (fun r' => r' = r ∧ iv_R u v) v v1) u v1 := by
  have I0 := I
  obtain ⟨cn, ck, fp, pg, ob, hr, sp, ix, sz, pf, sc, st, kd, pl, wd, tm, dg, dc, ss, pc, op, ox, oy, oz, ps, jp, oi, pa, pt, sh, lc, rc, dr⟩ := u
  obtain ⟨cn', fp', ck', pf', hr', sp', ix', sc', ye, sz', yj, st', kd', pl', ln, dc', tm', sn, sd, op', ox', oy', oz', sh', ch, oth, lw, hg, le, bk, fm, vy⟩ := v
  obtain ⟨⟨rfl, rfl, rfl, rfl, rfl, rfl, rfl, rfl, rfl, rfl, rfl, rfl, rfl, rfl, rfl, rfl, rfl⟩, ok, hA, ⟨n, hn, rfl, ho, hP⟩, hck, hsz⟩ := I
  refine br_c (fun a => br_t a ⟨rfl, I0⟩) (fun a => br_c (fun b => br_f a (br_c (fun _ => ⟨rfl, I0⟩) (fun _ => br_f (fun w => absurd (Int32.le_trans b w) (by decide)) ⟨rfl, I0⟩))) (fun b => ?_))
  obtain ⟨k, hk, rfl⟩ := nI_of a
  have hk96 : k < 96 := Nat.lt_of_not_le (fun z => b (nI_le (a := 96) z hk))
  have v96 : vp_in (nI k) 96 := vp_in_nI hk96 (by decide)
  exact br_c (fun c => ⟨v96, br_f a (br_f (Int32.not_le.mpr c) (br_t (nI_le (b := 95) (by omega) (by decide)) ⟨v96, rfl, I0⟩))⟩) (fun c => br_f a (br_t (Int32.not_lt.mp c) ⟨rfl, I0⟩))
section
variable {cn ck fp pg ob hr sp ix sz pf sc ye yj : Int32}
variable {st kd pl wd tm dg dc ss pc op ox oy oz ps jp oi pa pt sh lc rc dr ln sn sd ch oth lw hg le bk fm vy : Nat → Int32}
theorem xz_L {post : SX → Prop} (h : post (cn, ck, fp, pg, ob, hr, sp, ix, sz, pf, sc, sg_put st 0 0 96 (fun _ => 10), kd, pl, wd, tm, dg, dc, ss, pc, op, ox, oy, oz, ps, jp, oi, pa, pt, sh, lc, rc, dr)) : ∀ (d i : Nat) (x1 : Int32) (q : Nat → Int32), i + d = 96 → x1 = nI i → q = sg_put st 0 0 i (fun _ => 10) → wX_init_237 post cn ck fp pg ob hr sp ix sz pf sc (d + 1) x1 q kd pl wd tm dg dc ss pc op ox oy oz ps jp oi pa pt sh lc rc dr
  | 0, i, x1, q, hd, h1, hq => by
    subst h1 hq
    have e1 : i = 96 := by omega
    subst e1
    exact br_t (by decide) h
  | d + 1, i, x1, q, hd, h1, hq => by
    subst h1 hq
    refine br_f (nI_ge (b := 96) (by omega) (by decide)) ⟨vp_in_nI (by omega) (by decide), ?_⟩
    rw [nI_clamp (by omega)]
    exact nm_r (sg_up0 st i (fun _ => 10)) (nm_e (xz_L h d (i + 1) _ _ (by omega) (nI_1 i) rfl))
theorem yz_L {post : SY → Prop} (h : post (cn, fp, ck, pf, hr, sp, ix, sc, ye, sz, yj, sg_put st 0 0 96 (fun _ => 10), kd, pl, ln, dc, tm, sn, sd, op, ox, oy, oz, sh, ch, oth, lw, hg, le, bk, fm, vy)) : ∀ (d i : Nat) (x1 : Int32) (q : Nat → Int32), i + d = 96 → x1 = nI i → q = sg_put st 0 0 i (fun _ => 10) → wY_init_184 post cn fp ck pf hr sp ix sc ye sz yj (d + 1) x1 q kd pl ln dc tm sn sd op ox oy oz sh ch oth lw hg le bk fm vy
  | 0, i, x1, q, hd, h1, hq => by
    subst h1 hq
    have e1 : i = 96 := by omega
    subst e1
    exact br_t (by decide) h
  | d + 1, i, x1, q, hd, h1, hq => by
    subst h1 hq
    refine br_f (nI_ge (b := 96) (by omega) (by decide)) ⟨vp_in_nI (by omega) (by decide), ?_⟩
    rw [nI_clamp (by omega)]
    exact nm_r (sg_up0 st i (fun _ => 10)) (nm_e (yz_L h d (i + 1) _ _ (by omega) (nI_1 i) rfl))
end
theorem iv_0 : wpX_init (fun u => wpY_init (fun v => iv_R u v)) := by
  refine ⟨97, xz_L ?_ 96 0 _ _ (by omega) rfl (sg_0 _ _ _ _).symm⟩
  refine ⟨97, yz_L ?_ 96 0 _ _ (by omega) rfl (sg_0 _ _ _ _).symm⟩
  refine ⟨⟨rfl, rfl, rfl, rfl, rfl, rfl, rfl, rfl, rfl, rfl, rfl, rfl, rfl, rfl, rfl, rfl, rfl⟩, st_okp (fun _ => by decide) (fun _ _ _ => by decide), fun j hj => Or.inl rfl, ⟨0, by omega, rfl, fun k hk => absurd hk (by omega), fun w => absurd w (by decide)⟩, Or.inl rfl, Or.inl rfl⟩
