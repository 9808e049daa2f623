/-! ADD to DIVIDE ROUNDED: compute and reckon -/
theorem nb_0 : narrow .boolean (.int 0) = .int 0 := rfl
theorem nb_1 : narrow .boolean (.int 1) = .int 1 := rfl
theorem fb_0 : fits .boolean (.int 0) = true := rfl
theorem fb_1 : fits .boolean (.int 1) = true := rfl
theorem rd_le (m b : Nat) (r : Bool) : rd_q m b r ≤ m + 1 := by
  unfold rd_q
  have := Nat.div_le_self m b
  split <;> omega
theorem ar_nrm {σ : Bool} {q : Nat} : ar_s σ q = ar_s (σ && decide (0 < q)) q := by
  by_cases h : 0 < q
  · rw [decide_eq_true h, Bool.and_true]
  · have : q = 0 := by omega
    subst this
    rw [ar_s0, ar_s0]
theorem cp_p9 {k : Nat} (h : k ≤ 9) : 10 ^ k ≤ 1000000000 := Nat.pow_le_pow_right (n := 10) (by decide) h
section
variable {cn ck fp pg ob hr sp ix sz pf sc ye yj : Int32}
variable {st kd pl wd tm dg dc ss pc op ox oy oz ps jp oi pa pt sh lc rc dr ln sn sd ch oth lw hg le bk fm vy : Nat → Int32}
variable {K A W T D B S L e j F M m has N n : Nat} {s : Bool} {V : Int} {x z : Int32} {d : Nat}
theorem cp_fin {sE sb : Bool} {mE mb q : Nat} (ok : st_ok st) (hj : j < 12) (R : it_R kd pl wd tm dg dc ss pc ln sn sd j K A W T D B S L) (hx : it_X ix T e) (hK : K = 1) (hE : mE < 9000000000000000000) (hb : mb < 9000000000000000000) (h1 : sE = true → 0 < mE) (h2 : sb = true → 0 < mb) (hq : q < 9000000000000000001) :
    ∃ st' dr' oth' sz', st_ok st' ∧ (sz' = 0 ∨ sz' = 1) ∧ (∀ post, post (cn, ck, fp, pg, ob, hr, sp, ix, sz', pf, sc, st', kd, pl, wd, tm, dg, dc, ss, pc, op, ox, oy, oz, ps, jp, oi, pa, pt, sh, lc, rc, dr') → wX_compute_205 post (nI j) (nI B) (ar_l (ar_s (sE != sb) q)) cn ck fp pg ob hr sp ix sz pf sc st kd pl wd tm dg dc ss pc op ox oy oz ps jp oi pa pt sh lc rc dr) ∧
      (∀ post, post (cn, fp, ck, pf, hr, sp, ix, sc, ye, sz', yj, st', kd, pl, ln, dc, tm, sn, sd, op, ox, oy, oz, sh, ch, oth', lw, hg, le, bk, fm, vy) → wY_reckon_259 post (nI j) (nI B) (ar_l (ar_s sE mE)) (ar_l (ar_s sb mb)) (ar_l (q : Int)) cn fp ck pf hr sp ix sc ye sz yj st kd pl ln dc tm sn sd op ox oy oz sh ch oth lw hg le bk fm vy) := by
  have R0 := R
  obtain ⟨⟨r1, r2, r3, r4, r5, r6, r7, r8⟩, ⟨k1, k2, k3, k4, k5, k6, k7, k8, k9, k10, k11⟩, q1, q2, -⟩ := R0
  subst hK
  obtain ⟨qa, qb, qc, qd⟩ := q1 rfl
  subst qa
  have v : vp_in (nI j) 12 := vp_in_nI hj (by decide)
  have hp : 10 ^ D ≤ 1000000000 := cp_p9 k11
  have hp0 := ar_pp D
  have cj : (nI j).toNatClampNeg = j := nI_clamp (by omega)
  by_cases hc : q < 10 ^ D
  · obtain ⟨st', dr', oth', ok', hX, hY⟩ := sp_pair (cn := cn) (ck := ck) (fp := fp) (pg := pg) (ob := ob) (hr := hr) (sp := sp) (ix := ix) (sz := 0) (pf := pf) (sc := sc) (ye := ye) (yj := yj) (st := st) (kd := kd) (pl := pl) (wd := wd) (tm := tm) (dg := dg) (dc := dc) (ss := ss) (pc := pc) (op := op) (ox := ox) (oy := oy) (oz := oz) (ps := ps) (jp := jp) (oi := oi) (pa := pa) (pt := pt) (sh := sh) (lc := lc) (rc := rc) (dr := dr) (ln := ln) (sn := sn) (sd := sd) (ch := ch) (oth := oth) (lw := lw) (hg := hg) (le := le) (bk := bk) (fm := fm) (vy := vy) (s := (sE != sb) && decide (0 < q)) (m := q) (has := B) hj R hx (Or.inl rfl) ok (by omega) k10 (fun w => by rw [Bool.and_eq_true, decide_eq_true_eq] at w; exact w.2)
    rw [← ar_nrm] at hX hY
    refine ⟨st', dr', oth', 0, ok', Or.inl rfl, fun post hp2 => ⟨v, ?_⟩, fun post hp2 => ⟨v, ?_⟩⟩
    · rw [cj, r5]
      refine xw_ten k11 (br_f ?_ (br_t ?_ ⟨nb_0, fb_0, br_t rfl (hX _ hp2)⟩))
      · rw [ar_le (ar_nB (by omega)) (ar_sB (by omega))]
        cases sE != sb
        · show ¬ ((10 ^ D : Nat) : Int) ≤ (q : Int); omega
        · show ¬ ((10 ^ D : Nat) : Int) ≤ -(q : Int); omega
      · rw [ar_neg, ar_lt ⟨by omega, by omega⟩ (ar_sB (by omega))]
        cases sE != sb
        · show -((10 ^ D : Nat) : Int) < (q : Int); omega
        · show -((10 ^ D : Nat) : Int) < -(q : Int); omega
    · rw [cj, r8]
      refine yw_ten (by omega) (br_t ?_ ⟨nb_0, fb_0, br_t rfl (yi_elem hj R hx ?_)⟩)
      · rw [ar_ltn (by omega) (by omega)]; exact hc
      · have k324 : wY_reckon_324 post (nI B) (ar_l (q : Int)) (rd_b sb) (rd_b sE) (nI e) (nI j) cn fp ck pf hr sp ix sc ye 0 yj st kd pl ln dc tm sn sd op ox oy oz sh ch oth lw hg le bk fm vy := by
          cases sE <;> cases sb
          · exact br_t rfl (hY _ hp2)
          · exact br_f (by decide) (by rw [ar_neg]; exact hY _ hp2)
          · exact br_f (by decide) (by rw [ar_neg]; exact hY _ hp2)
          · exact br_t rfl (hY _ hp2)
        have k312 : wY_reckon_312 post (nI B) (ar_l (ar_s sb mb)) (ar_l (q : Int)) (rd_b sE) (nI e) (nI j) cn fp ck pf hr sp ix sc ye 0 yj st kd pl ln dc tm sn sd op ox oy oz sh ch oth lw hg le bk fm vy := by
          cases sb with
          | false => exact br_t ((ar_pos (by omega) h2).mpr rfl) k324
          | true => exact br_f (fun w => absurd ((ar_pos (by omega) h2).mp w) (by decide)) k324
        cases sE with
        | false => exact br_t ((ar_pos (by omega) h1).mpr rfl) k312
        | true => exact br_f (fun w => absurd ((ar_pos (by omega) h1).mp w) (by decide)) k312
  · refine ⟨st, dr, oth, 1, ok, Or.inr rfl, fun post hp2 => ⟨v, ?_⟩, fun post hp2 => ⟨v, ?_⟩⟩
    · rw [cj, r5]
      have z1 : wX_compute_234 post (nI j) (nI B) (ar_l (ar_s (sE != sb) q)) cn ck fp pg ob hr sp ix sz pf sc st kd pl wd tm dg dc ss pc op ox oy oz ps jp oi pa pt sh lc rc dr := ⟨nb_1, fb_1, br_f (by decide) hp2⟩
      refine xw_ten k11 ?_
      cases hσ : sE != sb with
      | false =>
        rw [hσ] at z1
        refine br_t ?_ z1
        rw [ar_le (ar_nB (by omega)) (ar_sB (by omega))]
        show ((10 ^ D : Nat) : Int) ≤ (q : Int); omega
      | true =>
        rw [hσ] at z1
        refine br_f ?_ (br_f ?_ z1)
        · rw [ar_le (ar_nB (by omega)) (ar_sB (by omega))]
          show ¬ ((10 ^ D : Nat) : Int) ≤ -(q : Int); omega
        · rw [ar_neg, ar_lt ⟨by omega, by omega⟩ (ar_sB (by omega))]
          show ¬ -((10 ^ D : Nat) : Int) < -(q : Int); omega
    · rw [cj, r8]
      refine yw_ten (by omega) (br_f ?_ ⟨nb_1, fb_1, br_f (by decide) hp2⟩)
      rw [ar_ltn (by omega) (by omega)]; exact hc
theorem cp_176 {post : SY → Prop} {sE sb r : Bool} {mE mb : Nat} {y : Int32} {b : Int32} (hE : mE < 4000000000000000000) (hb : mb < 4000000000000000000) (h0 : 0 < mb)
    (h : wY_reckon_259 post y b (ar_l (ar_s sE mE)) (ar_l (ar_s sb mb)) (ar_l ((rd_q mE mb r : Nat) : Int)) cn fp ck pf hr sp ix sc ye sz yj st kd pl ln dc tm sn sd op ox oy oz sh ch oth lw hg le bk fm vy) : wY_reckon_176 post (rd_b r) y b (ar_l (ar_s sE mE)) (ar_l (ar_s sb mb)) cn fp ck pf hr sp ix sc ye sz yj st kd pl ln dc tm sn sd op ox oy oz sh ch oth lw hg le bk fm vy := by
  have hz : ¬ ar_l (ar_s sb mb) = 0 := by
    rw [ar_eq0 (ar_sB (by omega))]
    cases sb with
    | false => exact fun z => absurd (show (mb : Int) = 0 from z) (by omega)
    | true => exact fun z => absurd (show -(mb : Int) = 0 from z) (by omega)
  have hmod : mE % mb < mb := Nat.mod_lt _ h0
  have hd : mE / mb ≤ mE := Nat.div_le_self _ _
  refine br_f hz (ar_ab (by omega) (fun w => wY_reckon_204 post (rd_b r) y b (ar_l (ar_s sE mE)) (ar_l (ar_s sb mb)) w cn fp ck pf hr sp ix sc ye sz yj st kd pl ln dc tm sn sd op ox oy oz sh ch oth lw hg le bk fm vy) ?_)
  refine ar_ab (by omega) (fun w => wY_reckon_221 post (rd_b r) y b (ar_l (ar_s sE mE)) (ar_l (ar_s sb mb)) (ar_l (mE : Int)) w cn fp ck pf hr sp ix sc ye sz yj st kd pl ln dc tm sn sd op ox oy oz sh ch oth lw hg le bk fm vy) ?_
  refine ⟨ar_n0 h0 (by omega), nm_r (ar_dv (by omega) (by omega)) ⟨ar_n0 h0 (by omega), nm_r (ar_rm (by omega) (by omega)) ?_⟩⟩
  unfold rd_q at h
  cases r with
  | false =>
    rw [if_neg (fun z => absurd z.1 (by decide))] at h
    exact br_t rfl h
  | true =>
    refine br_f (by decide) ?_
    have e2 : 2 * ar_l ((mE % mb : Nat) : Int) = ar_l ((2 * (mE % mb) : Nat) : Int) := by
      rw [ar_2, ar_mul]
      rfl
    rw [e2, ar_ltn (by omega) (by omega)]
    by_cases hc : mb ≤ 2 * (mE % mb)
    · rw [if_pos ⟨rfl, hc⟩] at h
      exact br_f (by omega) (nm_r (e' := ar_l ((mE / mb + 1 : Nat) : Int)) (by rw [ar_1, ar_add]; rfl) h)
    · rw [if_neg (fun z => hc z.2)] at h
      exact br_t (by omega) h
theorem cp_nf (b : Bool) : (b != false) = b := by cases b <;> rfl
/-- what comes out of one computation: both sides from their decimals on -/
def cp_O (cn ck fp pg ob hr sp ix sz pf sc ye yj : Int32) (st kd pl wd tm dg dc ss pc op ox oy oz ps jp oi pa pt sh lc rc dr ln sn sd ch oth lw hg le bk fm vy : Nat → Int32) (PX : (SX → Prop) → Prop) (PY : (SY → Prop) → Prop) : Prop :=
  ∃ st' dr' oth' sz', st_ok st' ∧ (sz' = 0 ∨ sz' = 1) ∧ (∀ post : SX → Prop, post (cn, ck, fp, pg, ob, hr, sp, ix, sz', pf, sc, st', kd, pl, wd, tm, dg, dc, ss, pc, op, ox, oy, oz, ps, jp, oi, pa, pt, sh, lc, rc, dr') → PX post) ∧ (∀ post : SY → Prop, post (cn, fp, ck, pf, hr, sp, ix, sc, ye, sz', yj, st', kd, pl, ln, dc, tm, sn, sd, op, ox, oy, oz, sh, ch, oth', lw, hg, le, bk, fm, vy) → PY post)
theorem cp_as {r sub : Bool} {Vy : Int} (ok : st_ok st) (hj : j < 12) (R : it_R kd pl wd tm dg dc ss pc ln sn sd j K A W T D B S L) (hx : it_X ix T e) (hK : K = 1) (hV : V.natAbs ≤ 2147483648) (hVy : Vy.natAbs ≤ 1000000000) (hd : d ≤ 9) :
    cp_O cn ck fp pg ob hr sp ix sz pf sc ye yj st kd pl wd tm dg dc ss pc op ox oy oz ps jp oi pa pt sh lc rc dr ln sn sd ch oth lw hg le bk fm vy (fun post => wX_compute_78 post (nI j) (rd_b r) (if sub = true then 3 else 2) (ar_l Vy) (ar_l V) (nI B) (nI d) cn ck fp pg ob hr sp ix sz pf sc st kd pl wd tm dg dc ss pc op ox oy oz ps jp oi pa pt sh lc rc dr) (fun post => wY_reckon_54 post (if sub = true then 1 else 0) (rd_b r) (nI j) (ar_l V) (ar_l Vy) (nI d) cn fp ck pf hr sp ix sc ye sz yj st kd pl ln dc tm sn sd op ox oy oz sh ch oth lw hg le bk fm vy) := by
  have r6 := R.1.2.2.2.2.2.1
  have k10 := R.2.1.2.2.2.2.2.2.2.2.2.1
  have v : vp_in (nI j) 12 := vp_in_nI hj (by decide)
  have cj : (nI j).toNatClampNeg = j := nI_clamp (by omega)
  obtain ⟨f, hf1, hf2, hf3, hfX, hfY⟩ : ∃ f : Nat, B ≤ f ∧ d ≤ f ∧ f ≤ 9 ∧ (B ≤ d → f = d) ∧ (d ≤ B → f = B) ∧ True := by
    by_cases h : B ≤ d
    · exact ⟨d, h, Nat.le_refl _, hd, fun _ => rfl, fun w => by omega, trivial⟩
    · exact ⟨B, Nat.le_refl _, by omega, k10, fun w => absurd w h, fun _ => rfl, trivial⟩
  have hP := cp_p9 (show f - B ≤ 9 by omega)
  have hQ := cp_p9 (show f - d ≤ 9 by omega)
  have hP0 := ar_pp (f - B)
  obtain ⟨E, hE⟩ : ∃ E : Int, E = Vy * ((10 ^ (f - B) : Nat) : Int) + (if sub = true then -V else V) * ((10 ^ (f - d) : Nat) : Int) := ⟨_, rfl⟩
  have hEb : E.natAbs < 3900000000000000000 := by
    have h1 : (Vy * ((10 ^ (f - B) : Nat) : Int)).natAbs ≤ 1000000000 * 1000000000 := by
      rw [Int.natAbs_mul, Int.natAbs_natCast]
      exact Nat.mul_le_mul hVy hP
    have h2 : ((if sub = true then -V else V) * ((10 ^ (f - d) : Nat) : Int)).natAbs ≤ 2147483648 * 1000000000 := by
      rw [Int.natAbs_mul, Int.natAbs_natCast]
      refine Nat.mul_le_mul ?_ hQ
      cases sub
      · exact hV
      · show (-V).natAbs ≤ _
        rw [Int.natAbs_neg]
        exact hV
    have h3 := Int.natAbs_add_le (Vy * ((10 ^ (f - B) : Nat) : Int)) ((if sub = true then -V else V) * ((10 ^ (f - d) : Nat) : Int))
    rw [← hE] at h3
    omega
  obtain ⟨sE, mE, e1, e2, e3⟩ := ar_ex E
  have hq := rd_le mE (10 ^ (f - B)) r
  obtain ⟨st', dr', oth', sz', ok', hz, hX, hY⟩ := cp_fin (cn := cn) (ck := ck) (fp := fp) (pg := pg) (ob := ob) (hr := hr) (sp := sp) (ix := ix) (sz := sz) (pf := pf) (sc := sc) (ye := ye) (yj := yj) (st := st) (kd := kd) (pl := pl) (wd := wd) (tm := tm) (dg := dg) (dc := dc) (ss := ss) (pc := pc) (op := op) (ox := ox) (oy := oy) (oz := oz) (ps := ps) (jp := jp) (oi := oi) (pa := pa) (pt := pt) (sh := sh) (lc := lc) (rc := rc) (dr := dr) (ln := ln) (sn := sn) (sd := sd) (ch := ch) (oth := oth) (lw := lw) (hg := hg) (le := le) (bk := bk) (fm := fm) (vy := vy) (sE := sE) (sb := false) (mE := mE) (mb := 10 ^ (f - B)) (q := rd_q mE (10 ^ (f - B)) r) ok hj R hx hK (by omega) (by omega) (fun w => by have := e3.mp w; omega) (fun w => absurd w (by decide)) (by omega)
  refine ⟨st', dr', oth', sz', ok', hz, fun post hp => ?_, fun post hp => ?_⟩
  · have h189 : wX_compute_189 post (nI j) (rd_b r) (nI B) (nI f) (ar_l E) cn ck fp pg ob hr sp ix sz pf sc st kd pl wd tm dg dc ss pc op ox oy oz ps jp oi pa pt sh lc rc dr := by
      unfold wX_compute_189
      rw [pk_sub hf1, e1]
      refine xw_short (by omega) (by omega) ?_
      have := hX post hp
      rwa [cp_nf] at this
    have h144 : wX_compute_144 post (nI j) (rd_b r) (if sub = true then 3 else 2) (ar_l Vy) (ar_l V) (nI B) (nI d) (nI f) cn ck fp pg ob hr sp ix sz pf sc st kd pl wd tm dg dc ss pc op ox oy oz ps jp oi pa pt sh lc rc dr := by
      unfold wX_compute_144
      rw [pk_sub hf1, pk_sub hf2]
      refine xw_len (by omega) (xw_len (by omega) ?_)
      cases sub with
      | false =>
        refine br_f (by decide) ?_
        rw [ar_add]
        rw [hE] at h189
        exact h189
      | true =>
        refine br_t rfl ?_
        rw [ar_sub]
        have e9 : Vy * ((10 ^ (f - B) : Nat) : Int) - V * ((10 ^ (f - d) : Nat) : Int) = E := by
          rw [hE, Int.sub_eq_add_neg, ← Int.neg_mul]
          rfl
        rw [e9]
        exact h189
    have go : ∀ c : Int32, c = 3 ∨ c = 2 → wX_compute_144 post (nI j) (rd_b r) c (ar_l Vy) (ar_l V) (nI B) (nI d) (nI f) cn ck fp pg ob hr sp ix sz pf sc st kd pl wd tm dg dc ss pc op ox oy oz ps jp oi pa pt sh lc rc dr → wX_compute_78 post (nI j) (rd_b r) c (ar_l Vy) (ar_l V) (nI B) (nI d) cn ck fp pg ob hr sp ix sz pf sc st kd pl wd tm dg dc ss pc op ox oy oz ps jp oi pa pt sh lc rc dr := by
      intro c hc h
      refine br_f (by rcases hc with rfl | rfl <;> decide) (br_f (by rcases hc with rfl | rfl <;> decide) ?_)
      by_cases hBd : B ≤ d
      · rw [hfX hBd] at h
        exact br_t (nI_le hBd (by omega)) h
      · rw [hfY.1 (by omega)] at h
        exact br_f (nI_ge (by omega) (by omega)) h
    refine go _ ?_ h144
    cases sub
    · exact Or.inr rfl
    · exact Or.inl rfl
  · have h115 : ∀ a' : Int, a' = (if sub = true then -V else V) → wY_reckon_115 post (rd_b r) (nI j) (nI d) (nI B) (nI f) (ar_l a') (ar_l (Vy * ((10 ^ (f - B) : Nat) : Int))) cn fp ck pf hr sp ix sc ye sz yj st kd pl ln dc tm sn sd op ox oy oz sh ch oth lw hg le bk fm vy := by
      intro a' ea
      unfold wY_reckon_115
      rw [pk_sub hf2, pk_sub hf1]
      refine yw_ten (by omega) (nm_r (e' := ar_l E) ?_ (yw_ten (by omega) ?_))
      · rw [ar_mul, ar_add, hE, ea]
      · rw [e1]
        exact cp_176 (sb := false) (by omega) (by omega) hP0 (hY post hp)
    have h79 : wY_reckon_79 post (if sub = true then 1 else 0) (rd_b r) (nI j) (ar_l V) (ar_l Vy) (nI d) (nI B) (nI f) cn fp ck pf hr sp ix sc ye sz yj st kd pl ln dc tm sn sd op ox oy oz sh ch oth lw hg le bk fm vy := by
      cases sub with
      | false =>
        refine br_f (by decide) ?_
        rw [pk_sub hf1]
        refine yw_ten (by omega) (br_t rfl ?_)
        rw [ar_mul]
        exact h115 V rfl
      | true =>
        refine br_f (by decide) ?_
        rw [pk_sub hf1]
        refine yw_ten (by omega) (br_f (by decide) ?_)
        rw [ar_mul, ar_neg]
        exact h115 (-V) rfl
    refine ⟨v, ?_⟩
    rw [cj, r6]
    refine nm_e ?_
    by_cases hBd : d ≤ B
    · rw [hfY.1 hBd] at h79
      exact br_t (nI_le hBd (by omega)) h79
    · rw [hfX (by omega)] at h79
      exact br_f (nI_ge (by omega) (by omega)) h79
theorem cp_mul {r : Bool} {Vy : Int} (ok : st_ok st) (hj : j < 12) (R : it_R kd pl wd tm dg dc ss pc ln sn sd j K A W T D B S L) (hx : it_X ix T e) (hK : K = 1) (hV : V.natAbs ≤ 2147483648) (hVy : Vy.natAbs ≤ 1000000000) (hd : d ≤ 9) :
    cp_O cn ck fp pg ob hr sp ix sz pf sc ye yj st kd pl wd tm dg dc ss pc op ox oy oz ps jp oi pa pt sh lc rc dr ln sn sd ch oth lw hg le bk fm vy (fun post => wX_compute_78 post (nI j) (rd_b r) 4 (ar_l Vy) (ar_l V) (nI B) (nI d) cn ck fp pg ob hr sp ix sz pf sc st kd pl wd tm dg dc ss pc op ox oy oz ps jp oi pa pt sh lc rc dr) (fun post => wY_reckon_54 post 2 (rd_b r) (nI j) (ar_l V) (ar_l Vy) (nI d) cn fp ck pf hr sp ix sc ye sz yj st kd pl ln dc tm sn sd op ox oy oz sh ch oth lw hg le bk fm vy) := by
  have r6 := R.1.2.2.2.2.2.1
  have v : vp_in (nI j) 12 := vp_in_nI hj (by decide)
  have cj : (nI j).toNatClampNeg = j := nI_clamp (by omega)
  have hP := cp_p9 hd
  have hEb : (Vy * V).natAbs ≤ 1000000000 * 2147483648 := by
    rw [Int.natAbs_mul]
    exact Nat.mul_le_mul hVy hV
  obtain ⟨sE, mE, e1, e2, e3⟩ := ar_ex (Vy * V)
  have hq := rd_le mE (10 ^ d) r
  obtain ⟨st', dr', oth', sz', ok', hz, hX, hY⟩ := cp_fin (cn := cn) (ck := ck) (fp := fp) (pg := pg) (ob := ob) (hr := hr) (sp := sp) (ix := ix) (sz := sz) (pf := pf) (sc := sc) (ye := ye) (yj := yj) (st := st) (kd := kd) (pl := pl) (wd := wd) (tm := tm) (dg := dg) (dc := dc) (ss := ss) (pc := pc) (op := op) (ox := ox) (oy := oy) (oz := oz) (ps := ps) (jp := jp) (oi := oi) (pa := pa) (pt := pt) (sh := sh) (lc := lc) (rc := rc) (dr := dr) (ln := ln) (sn := sn) (sd := sd) (ch := ch) (oth := oth) (lw := lw) (hg := hg) (le := le) (bk := bk) (fm := fm) (vy := vy) (sE := sE) (sb := false) (mE := mE) (mb := 10 ^ d) (q := rd_q mE (10 ^ d) r) ok hj R hx hK (by omega) (by omega) (fun w => by have := e3.mp w; omega) (fun w => absurd w (by decide)) (by omega)
  refine ⟨st', dr', oth', sz', ok', hz, fun post hp => ?_, fun post hp => ⟨v, ?_⟩⟩
  · refine br_t rfl ?_
    rw [ar_mul, e1]
    refine xw_short hd (by omega) ?_
    have := hX post hp
    rwa [cp_nf] at this
  · rw [cj, r6]
    have h79 : ∀ f : Int32, wY_reckon_79 post 2 (rd_b r) (nI j) (ar_l V) (ar_l Vy) (nI d) (nI B) f cn fp ck pf hr sp ix sc ye sz yj st kd pl ln dc tm sn sd op ox oy oz sh ch oth lw hg le bk fm vy := by
      intro f
      refine br_t (by decide) (br_t rfl (nm_r (e' := ar_l (ar_s sE mE)) (by rw [ar_mul, e1]) (yw_ten (by omega) ?_)))
      exact cp_176 (sb := false) (by omega) (by omega) (ar_pp d) (hY post hp)
    exact nm_e (br_c (fun _ => h79 _) (fun _ => h79 _))
theorem cp_div {r : Bool} {Vy : Int} (ok : st_ok st) (hj : j < 12) (R : it_R kd pl wd tm dg dc ss pc ln sn sd j K A W T D B S L) (hx : it_X ix T e) (hK : K = 1) (hV : V.natAbs ≤ 2147483648) (hVy : Vy.natAbs ≤ 1000000000) (hd : d ≤ 9) (hV0 : V ≠ 0) :
    cp_O cn ck fp pg ob hr sp ix sz pf sc ye yj st kd pl wd tm dg dc ss pc op ox oy oz ps jp oi pa pt sh lc rc dr ln sn sd ch oth lw hg le bk fm vy (fun post => wX_compute_78 post (nI j) (rd_b r) 5 (ar_l Vy) (ar_l V) (nI B) (nI d) cn ck fp pg ob hr sp ix sz pf sc st kd pl wd tm dg dc ss pc op ox oy oz ps jp oi pa pt sh lc rc dr) (fun post => wY_reckon_54 post 3 (rd_b r) (nI j) (ar_l V) (ar_l Vy) (nI d) cn fp ck pf hr sp ix sc ye sz yj st kd pl ln dc tm sn sd op ox oy oz sh ch oth lw hg le bk fm vy) := by
  have r6 := R.1.2.2.2.2.2.1
  have v : vp_in (nI j) 12 := vp_in_nI hj (by decide)
  have cj : (nI j).toNatClampNeg = j := nI_clamp (by omega)
  have hP := cp_p9 hd
  have hEb : (Vy * ((10 ^ d : Nat) : Int)).natAbs ≤ 1000000000 * 1000000000 := by
    rw [Int.natAbs_mul, Int.natAbs_natCast]
    exact Nat.mul_le_mul hVy hP
  obtain ⟨sE, mE, e1, e2, e3⟩ := ar_ex (Vy * ((10 ^ d : Nat) : Int))
  obtain ⟨sb, mb, g1, g2, g3⟩ := ar_ex V
  have hq := rd_le mE mb r
  obtain ⟨st', dr', oth', sz', ok', hz, hX, hY⟩ := cp_fin (cn := cn) (ck := ck) (fp := fp) (pg := pg) (ob := ob) (hr := hr) (sp := sp) (ix := ix) (sz := sz) (pf := pf) (sc := sc) (ye := ye) (yj := yj) (st := st) (kd := kd) (pl := pl) (wd := wd) (tm := tm) (dg := dg) (dc := dc) (ss := ss) (pc := pc) (op := op) (ox := ox) (oy := oy) (oz := oz) (ps := ps) (jp := jp) (oi := oi) (pa := pa) (pt := pt) (sh := sh) (lc := lc) (rc := rc) (dr := dr) (ln := ln) (sn := sn) (sd := sd) (ch := ch) (oth := oth) (lw := lw) (hg := hg) (le := le) (bk := bk) (fm := fm) (vy := vy) (sE := sE) (sb := sb) (mE := mE) (mb := mb) (q := rd_q mE mb r) ok hj R hx hK (by omega) (by omega) (fun w => by have := e3.mp w; omega) (fun w => by have := g3.mp w; omega) (by omega)
  refine ⟨st', dr', oth', sz', ok', hz, fun post hp => ?_, fun post hp => ⟨v, ?_⟩⟩
  · refine br_f (by decide) (br_t rfl (xw_len hd ?_))
    rw [e1, g1]
    exact xw_quot (by omega) (by omega) (by omega) (fun w => by have := e3.mp w; omega) (hX post hp)
  · rw [cj, r6]
    have h79 : ∀ f : Int32, wY_reckon_79 post 3 (rd_b r) (nI j) (ar_l V) (ar_l Vy) (nI d) (nI B) f cn fp ck pf hr sp ix sc ye sz yj st kd pl ln dc tm sn sd op ox oy oz sh ch oth lw hg le bk fm vy := by
      intro f
      refine br_t (by decide) (br_f (by decide) (yw_ten (by omega) (nm_r (e' := ar_l (ar_s sE mE)) (by rw [ar_mul, e1]) ?_)))
      rw [g1]
      exact cp_176 (by omega) (by omega) (by omega) (hY post hp)
    exact nm_e (br_c (fun _ => h79 _) (fun _ => h79 _))
end
