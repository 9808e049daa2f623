/-! what comes behind an instruction: goOn against the reference's turns of again -/
section
variable {cn ck fp pg ob hr sp ix sz pf sc ye yj : Int32}
variable {st kd pl wd tm dg dc ss pc op ox oy oz ps jp oi pa pt sh lc rc dr ln sn sd ch oth lw hg le bk fm vy : Nat → Int32}
variable {n p k0 i τ ζ h : Nat}
theorem xg_time {post : SX → Prop} {a : Nat} {ix' : Int32} (hp : p < 6) (hi : i < 48) (h1 : pa p = nI i) (h2 : pt p = nI τ) (ha : ox i = nI a) (ha2 : a < 49) (hk : ps a = nI k0) (hix : ix' = if op i = 16 then nI (τ + 1) else ix)
    (h : post (cn, ck, fp, pg, ob, nI k0, sp, ix', sz, nI (p + 1), sc, st, kd, pl, wd, tm, dg, dc, ss, pc, op, ox, oy, oz, ps, jp, oi, pa, upd pt p (nI (τ + 1)), sh, lc, rc, dr)) : wpX_beginTime post (cn, ck, fp, pg, ob, hr, sp, ix, sz, nI (p + 1), sc, st, kd, pl, wd, tm, dg, dc, ss, pc, op, ox, oy, oz, ps, jp, oi, pa, pt, sh, lc, rc, dr) := by
  have v : vp_in (nI p) 6 := vp_in_nI hp (by decide)
  have vi : vp_in (nI i) 48 := vp_in_nI hi (by decide)
  have cp : (nI p).toNatClampNeg = p := nI_clamp (by omega)
  have ci : (nI i).toNatClampNeg = i := nI_clamp (by omega)
  have e1 : upd pt (nI p).toNatClampNeg (pt (nI p).toNatClampNeg + 1) = upd pt p (nI (τ + 1)) := by rw [cp, h2, nI_1]
  have e2 : pa (nI p).toNatClampNeg = nI i := by rw [cp, h1]
  have last : ∀ ix0 : Int32, ix0 = ix' → wX_beginTime_45 post (nI i) cn ck fp pg ob hr sp ix0 sz (nI (p + 1)) sc st kd pl wd tm dg dc ss pc op ox oy oz ps jp oi pa (upd pt p (nI (τ + 1))) sh lc rc dr := by
    intro ix0 e
    subst e
    refine ⟨vi, ?_⟩
    rw [ci, ha, nI_clamp (show a < 2 ^ 31 by omega), hk]
    exact ⟨vp_in_nI ha2 (by decide), nm_e h⟩
  refine nm_r (nI_pred p) ⟨v, nm_r e2 ⟨v, v, nm_r e1 ⟨vi, ?_⟩⟩⟩
  rw [ci, cp]
  by_cases ho : op i = 16
  · rw [if_pos ho] at hix
    refine br_t ho ⟨v, nm_r pk_us (last _ hix.symm)⟩
  · rw [if_neg ho] at hix
    exact br_f ho (last _ hix.symm)
theorem ya_pop {post : SY → Prop} (hp : p < 6) (h1 : le p = nI 1) (h2 : bk p = nI k0) (h : post (cn, fp, ck, nI p, nI k0, sp, ix, sc, ye, sz, yj, st, kd, pl, ln, dc, tm, sn, sd, op, ox, oy, oz, sh, ch, oth, lw, hg, upd le p 0, bk, fm, vy)) : wpY_again post (cn, fp, ck, nI (p + 1), hr, sp, ix, sc, ye, sz, yj, st, kd, pl, ln, dc, tm, sn, sd, op, ox, oy, oz, sh, ch, oth, lw, hg, le, bk, fm, vy) := by
  have v : vp_in (nI p) 6 := vp_in_nI hp (by decide)
  have cp : (nI p).toNatClampNeg = p := nI_clamp (by omega)
  have e1 : upd le (nI p).toNatClampNeg (le (nI p).toNatClampNeg - 1) = upd le p 0 := by rw [cp, h1]; rfl
  refine nm_r (nI_pred p) ⟨v, v, nm_r e1 ⟨v, ?_⟩⟩
  rw [cp]
  exact br_t pk_us (nm_r (nI_pred p) ⟨v, nm_r h2 h⟩)
theorem ya_next {post : SY → Prop} {a : Nat} {ix' : Int32} (hp : p < 6) (h1 : le p = nI (ζ - τ + 1)) (h2 : τ < ζ) (h3 : ζ < 2 ^ 31) (h4 : fm p = nI τ) (h5 : vy p = if op i = 16 then 1 else 0) (h6 : lw p = nI a) (hix : ix' = if op i = 16 then nI (τ + 1) else ix)
    (hk : k0 < 48) (h0 : op k0 = 0) (hz : tb_z op k0 = a) (h : post (cn, fp, ck, nI (p + 1), nI k0, sp, ix', sc, ye, sz, 1, st, kd, pl, ln, dc, tm, sn, sd, op, ox, oy, oz, sh, ch, oth, lw, hg, upd le p (nI (ζ - τ)), bk, upd fm p (nI (τ + 1)), vy)) : wpY_again post (cn, fp, ck, nI (p + 1), hr, sp, ix, sc, ye, sz, yj, st, kd, pl, ln, dc, tm, sn, sd, op, ox, oy, oz, sh, ch, oth, lw, hg, le, bk, fm, vy) := by
  have v : vp_in (nI p) 6 := vp_in_nI hp (by decide)
  have cp : (nI p).toNatClampNeg = p := nI_clamp (by omega)
  have e1 : upd le (nI p).toNatClampNeg (le (nI p).toNatClampNeg - 1) = upd le p (nI (ζ - τ)) := by rw [cp, h1, nI_pred]
  have e2 : upd fm (nI p).toNatClampNeg (fm (nI p).toNatClampNeg + 1) = upd fm p (nI (τ + 1)) := by rw [cp, h4, nI_1]
  have last : ∀ ix0 : Int32, ix0 = ix' → wY_again_76 post (nI p) cn fp ck (nI (p + 1)) hr sp ix0 sc ye sz yj st kd pl ln dc tm sn sd op ox oy oz sh ch oth lw hg (upd le p (nI (ζ - τ))) bk (upd fm p (nI (τ + 1))) vy := by
    intro ix0 e
    subst e
    refine ⟨v, ?_⟩
    rw [cp, h6]
    exact yb_begin hk h0 hz h
  refine nm_r (nI_pred p) ⟨v, v, nm_r e1 ⟨v, ?_⟩⟩
  rw [cp]
  refine br_f (fun z => ?_) ⟨v, v, ?_⟩
  · rw [pk_us] at z
    exact nI_ne0 (by omega) (by omega) z
  · rw [cp] at e2
    refine nm_r e2 ⟨v, ?_⟩
    rw [h5]
    by_cases ho : op i = 16
    · rw [if_pos ho] at hix ⊢
      exact br_f (by decide) ⟨v, nm_r pk_us (last _ hix.symm)⟩
    · rw [if_neg ho] at hix ⊢
      exact br_t rfl (last _ hix.symm)
/-- the reference's head of a turn, with none or some performs, where no end is reached -/
theorem yr_head {post : Int32 → SY → Prop} {J : Int32 → Int32 → Int32 → Int32 → Int32 → Int32 → Int32 → Int32 → Int32 → Int32 → Int32 → (Nat → Int32) → (Nat → Int32) → (Nat → Int32) → (Nat → Int32) → (Nat → Int32) → (Nat → Int32) → (Nat → Int32) → (Nat → Int32) → (Nat → Int32) → (Nat → Int32) → (Nat → Int32) → (Nat → Int32) → (Nat → Int32) → (Nat → Int32) → (Nat → Int32) → (Nat → Int32) → (Nat → Int32) → (Nat → Int32) → (Nat → Int32) → (Nat → Int32) → (Nat → Int32) → Prop} {b : Nat} (hn : n ≤ 48) (hp6 : p ≤ 6) (hP : tb_P op n ps) (hye : ¬ 0 ≤ ye)
    (hal : ¬ yj = 0 ∨ p = 0 ∨ (hg (p - 1) = nI b ∧ b < tb_z op n ∧ ¬ nI h = ps (b + 1))) (H : wY_run_96 post J (nI n) fp ck (nI p) (nI h) sp ix sc ye sz yj st kd pl ln dc tm sn sd op ox oy oz sh ch oth lw hg le bk fm vy) :
    ((0 ≤ ye → post ye (nI n, fp, ck, nI p, nI h, sp, ix, sc, ye, sz, yj, st, kd, pl, ln, dc, tm, sn, sd, op, ox, oy, oz, sh, ch, oth, lw, hg, le, bk, fm, vy)) ∧ (¬ 0 ≤ ye → ((yj = 0 → ((nI p ≤ 0 → wY_run_96 post J (nI n) fp ck (nI p) (nI h) sp ix sc ye sz yj st kd pl ln dc tm sn sd op ox oy oz sh ch oth lw hg le bk fm vy) ∧ (¬ nI p ≤ 0 → (vp_in (nI p - 1) 6 ∧ (wpY_endOf (fun r_76 => ((nI h = r_76 → wY_run_97 post J 1 (nI n) fp ck (nI p) (nI h) sp ix sc ye sz yj st kd pl ln dc tm sn sd op ox oy oz sh ch oth lw hg le bk fm vy) ∧ (¬ nI h = r_76 → wY_run_96 post J (nI n) fp ck (nI p) (nI h) sp ix sc ye sz yj st kd pl ln dc tm sn sd op ox oy oz sh ch oth lw hg le bk fm vy))) (nI n, fp, ck, nI p, nI h, sp, ix, sc, ye, sz, yj, st, kd, pl, ln, dc, tm, sn, sd, op, ox, oy, oz, sh, ch, oth, lw, hg, le, bk, fm, vy) (hg (nI p - 1).toNatClampNeg)))))) ∧ (¬ yj = 0 → wY_run_96 post J (nI n) fp ck (nI p) (nI h) sp ix sc ye sz yj st kd pl ln dc tm sn sd op ox oy oz sh ch oth lw hg le bk fm vy)))) := by
  refine br_f hye (br_c (fun hj => br_c (fun _ => H) (fun hp => ?_)) (fun _ => H))
  have hp0 : p ≠ 0 := fun z => hp (by subst z; decide)
  obtain ⟨q, rfl⟩ : ∃ q, p = q + 1 := ⟨p - 1, by omega⟩
  rcases hal with z | z | ⟨h1, h2, h3⟩
  · exact absurd hj z
  · exact absurd z hp0
  · rw [nI_pred, nI_clamp (show q < 2 ^ 31 by omega)]
    rw [Nat.add_sub_cancel] at h1
    rw [h1]
    obtain ⟨k0, e, a1, a2, a3, a4, a5, a6, a7, a8, a9⟩ := tb_par hP h2
    rw [a9] at h3
    exact ⟨vp_in_nI (by omega) (by decide), yb_end hn a5 a6 a2 a3 a7 a8 (br_f h3 H)⟩
/-- the same where the topmost perform's end is reached -/
theorem yr_again {post : Int32 → SY → Prop} {J : Int32 → Int32 → Int32 → Int32 → Int32 → Int32 → Int32 → Int32 → Int32 → Int32 → Int32 → (Nat → Int32) → (Nat → Int32) → (Nat → Int32) → (Nat → Int32) → (Nat → Int32) → (Nat → Int32) → (Nat → Int32) → (Nat → Int32) → (Nat → Int32) → (Nat → Int32) → (Nat → Int32) → (Nat → Int32) → (Nat → Int32) → (Nat → Int32) → (Nat → Int32) → (Nat → Int32) → (Nat → Int32) → (Nat → Int32) → (Nat → Int32) → (Nat → Int32) → (Nat → Int32) → Prop} {b : Nat} (hn : n ≤ 48) (hp6 : p < 6) (hP : tb_P op n ps) (hye : ¬ 0 ≤ ye) (h1 : hg p = nI b) (h2 : b < tb_z op n) (h3 : nI h = ps (b + 1)) (H : wpY_again (fun u => match u with | (cn, fp, ck, pf, hr, sp, ix, sc, ye, sz, yj, st, kd, pl, ln, dc, tm, sn, sd, op, ox, oy, oz, sh, ch, oth, lw, hg, le, bk, fm, vy) => J cn fp ck pf hr sp ix sc ye sz yj st kd pl ln dc tm sn sd op ox oy oz sh ch oth lw hg le bk fm vy) (nI n, fp, ck, nI (p + 1), nI h, sp, ix, sc, ye, sz, 0, st, kd, pl, ln, dc, tm, sn, sd, op, ox, oy, oz, sh, ch, oth, lw, hg, le, bk, fm, vy)) :
    ((0 ≤ ye → post ye (nI n, fp, ck, nI (p + 1), nI h, sp, ix, sc, ye, sz, 0, st, kd, pl, ln, dc, tm, sn, sd, op, ox, oy, oz, sh, ch, oth, lw, hg, le, bk, fm, vy)) ∧ (¬ 0 ≤ ye → (((0 : Int32) = 0 → ((nI (p + 1) ≤ 0 → wY_run_96 post J (nI n) fp ck (nI (p + 1)) (nI h) sp ix sc ye sz 0 st kd pl ln dc tm sn sd op ox oy oz sh ch oth lw hg le bk fm vy) ∧ (¬ nI (p + 1) ≤ 0 → (vp_in (nI (p + 1) - 1) 6 ∧ (wpY_endOf (fun r_76 => ((nI h = r_76 → wY_run_97 post J 1 (nI n) fp ck (nI (p + 1)) (nI h) sp ix sc ye sz 0 st kd pl ln dc tm sn sd op ox oy oz sh ch oth lw hg le bk fm vy) ∧ (¬ nI h = r_76 → wY_run_96 post J (nI n) fp ck (nI (p + 1)) (nI h) sp ix sc ye sz 0 st kd pl ln dc tm sn sd op ox oy oz sh ch oth lw hg le bk fm vy))) (nI n, fp, ck, nI (p + 1), nI h, sp, ix, sc, ye, sz, 0, st, kd, pl, ln, dc, tm, sn, sd, op, ox, oy, oz, sh, ch, oth, lw, hg, le, bk, fm, vy) (hg (nI (p + 1) - 1).toNatClampNeg)))))) ∧ (¬ (0 : Int32) = 0 → wY_run_96 post J (nI n) fp ck (nI (p + 1)) (nI h) sp ix sc ye sz 0 st kd pl ln dc tm sn sd op ox oy oz sh ch oth lw hg le bk fm vy)))) := by
  refine br_f hye (br_t rfl (br_f (nI_nle (by omega) (by omega)) ?_))
  rw [nI_pred, nI_clamp (show p < 2 ^ 31 by omega), h1]
  obtain ⟨k0, e, a1, a2, a3, a4, a5, a6, a7, a8, a9⟩ := tb_par hP h2
  rw [a9] at h3
  exact ⟨vp_in_nI (by omega) (by decide), yb_end hn a5 a6 a2 a3 a7 a8 (br_t h3 (br_f (by decide) H))⟩
end
