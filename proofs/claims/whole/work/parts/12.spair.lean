/-! store of both sides: one storage comes out -/
theorem dg_Nlt {m has wants : Nat} (hm : m < 9000000000) (hw : wants ≤ 9) : dg_N m has wants < 9000000000000000000 := by
  unfold dg_N
  by_cases h : has ≤ wants
  · rw [if_pos h]
    have h1 : 10 ^ (wants - has) ≤ 10 ^ 9 := ar_ple (by omega)
    have h2 : m * 10 ^ (wants - has) ≤ m * 10 ^ 9 := Nat.mul_le_mul_left m h1
    rw [show 10 ^ 9 = 1000000000 from by decide] at h2
    omega
  · rw [if_neg h]
    have := Nat.div_le_self m (10 ^ (has - wants))
    omega
theorem ar_rms {s : Bool} {a b : Nat} (ha : a < 9223372036854775808) (hb : b < 9223372036854775808) : ar_l (ar_s s a) - ar_l (ar_s s a) / ar_l (b : Int) * ar_l (b : Int) = ar_l (ar_s s (a % b)) := by
  rw [ar_rem (ar_sB ha) (ar_nB hb), ar_tm]
theorem st_okp {st f : Nat → Int32} {p lo hi : Nat} (h : st_ok st) (hf : ∀ i, lo ≤ i → i < hi → ¬ f i < 0) : st_ok (sg_put st p lo hi f) := by
  intro k
  unfold sg_put
  by_cases c : p + lo ≤ k ∧ k < p + hi
  · rw [if_pos c]; exact hf _ (by omega) (by omega)
  · rw [if_neg c]; exact h k
theorem sr_ok {st : Nat → Int32} {F S W M : Nat} {s : Bool} (h : st_ok st) : st_ok (sr_x st F S W s M) := by
  have hf : ∀ i, S ≤ i → i < W → ¬ sr_f M W i < 0 := fun i _ _ => nI_pos (Nat.lt_of_lt_of_le (Nat.mod_lt _ (by decide)) (by decide))
  unfold sr_x
  by_cases h0 : S = 0
  · rw [if_pos h0]; exact st_okp h hf
  · rw [if_neg h0]
    refine ed_ok (st_okp h hf) ?_
    by_cases c : s = true ∧ 0 < M
    · rw [if_pos c]; decide
    · rw [if_neg c]; decide
section
variable {cn ck fp pg ob hr sp ix sz pf sc ye yj : Int32}
variable {st kd pl wd tm dg dc ss pc op ox oy oz ps jp oi pa pt sh lc rc dr ln sn sd ch oth lw hg le bk fm vy : Nat → Int32}
variable {K A W T D B S L e j F M m has N : Nat} {s : Bool}
theorem xs_40 {post : SX → Prop} (hj : j < 12) (R : it_R kd pl wd tm dg dc ss pc ln sn sd j K A W T D B S L) (hN : N < 9000000000000000000)
    (h3 : K = 3 → wpX_putEdited post (cn, ck, fp, pg, ob, hr, sp, ix, sz, pf, sc, st, kd, pl, wd, tm, dg, dc, ss, pc, op, ox, oy, oz, ps, jp, oi, pa, pt, sh, lc, rc, dr) (nI j) (nI F) (ar_l (ar_s s (N % 10 ^ D)))) (h1 : ¬ K = 3 → wpX_putNumber post (cn, ck, fp, pg, ob, hr, sp, ix, sz, pf, sc, st, kd, pl, wd, tm, dg, dc, ss, pc, op, ox, oy, oz, ps, jp, oi, pa, pt, sh, lc, rc, dr) (nI j) (nI F) (ar_l (ar_s s (N % 10 ^ D)))) : wX_store_40 post (nI j) (nI F) (ar_l (ar_s s N)) cn ck fp pg ob hr sp ix sz pf sc st kd pl wd tm dg dc ss pc op ox oy oz ps jp oi pa pt sh lc rc dr := by
  obtain ⟨⟨r1, r2, r3, r4, r5, r6, r7, r8⟩, ⟨k1, k2, k3, k4, k5, k6, k7, k8, k9, k10, k11⟩, -, -, -⟩ := R
  have v : vp_in (nI j) 12 := vp_in_nI hj (by decide)
  have hp : 10 ^ D ≤ 10 ^ 9 := ar_ple k11
  rw [show 10 ^ 9 = 1000000000 from by decide] at hp
  refine ⟨v, ?_⟩
  rw [nI_clamp (show j < 2 ^ 31 by omega), r5, r1]
  refine xw_ten k11 ⟨ar_n0 (ar_pp D) (by omega), nm_r (ar_rms (by omega) (by omega)) ⟨v, ?_⟩⟩
  by_cases hK : K = 3
  · subst hK
    exact br_t rfl (h3 rfl)
  · exact br_f (fun z => hK ((nI_eq (b := 3) (by omega) (by decide)).mp z)) (h1 hK)
theorem xs_store {post : SX → Prop} (hj : j < 12) (R : it_R kd pl wd tm dg dc ss pc ln sn sd j K A W T D B S L) (hx : it_X ix T e) (hm : m < 9000000000) (hh : has ≤ 9)
    (h : wX_store_40 post (nI j) (nI (A + (e - 1) * W)) (ar_l (ar_s s (dg_N m has B))) cn ck fp pg ob hr sp ix sz pf sc st kd pl wd tm dg dc ss pc op ox oy oz ps jp oi pa pt sh lc rc dr) : wpX_store post (cn, ck, fp, pg, ob, hr, sp, ix, sz, pf, sc, st, kd, pl, wd, tm, dg, dc, ss, pc, op, ox, oy, oz, ps, jp, oi, pa, pt, sh, lc, rc, dr) (nI j) (ar_l (ar_s s m)) (nI has) := by
  have R0 := R
  obtain ⟨⟨r1, r2, r3, r4, r5, r6, r7, r8⟩, ⟨k1, k2, k3, k4, k5, k6, k7, k8, k9, k10, k11⟩, -, -, -⟩ := R0
  have v : vp_in (nI j) 12 := vp_in_nI hj (by decide)
  unfold wpX_store
  refine xi_place hj R hx ?_
  refine ⟨v, ?_⟩
  rw [nI_clamp (show j < 2 ^ 31 by omega), r6]
  unfold dg_N at h
  by_cases hc : has ≤ B
  · rw [if_pos hc] at h
    refine nm_r (pk_sub hc) (br_f (nI_pos (by omega)) (xw_len (by omega) ?_))
    rw [ar_ms]
    exact h
  · rw [if_neg hc] at h
    refine nm_e (br_t (pk_sneg (by omega) (by omega)) ?_)
    rw [Int32.neg_sub, pk_sub (by omega)]
    exact xw_short (r := false) (by omega) (by omega) h
theorem ys_cntL {post : SY → Prop} {p : Int32} {x3 : Int64} (hj : j < 12) (hk : kd j = nI 3) (hL : L ≤ 8) (hsn : ∀ k, k < L → sn (8 * j + k) = pi_s (pc j) L k ∧ pi_s (pc j) L k ≠ 0)
    (h : ∃ n, wY_store_92 post (nI j) x3 (nI has) (nI (pi_c (pc j) L L)) p cn fp ck pf hr sp ix sc ye sz yj n 0 0 st kd pl ln dc tm sn sd op ox oy oz sh ch oth lw hg le bk fm vy) :
    ∀ (d i : Nat) (x6 x9 : Int32), i + d = L → x6 = nI (pi_c (pc j) L i) → x9 = nI i → wY_store_36 post (nI j) x3 (nI has) p (nI L) cn fp ck pf hr sp ix sc ye sz yj st kd pl ln dc tm sn sd op ox oy oz sh ch oth lw hg le bk fm vy (d + 1) x6 x9
  | 0, i, x6, x9, hd, h6, h9 => by
    subst h6 h9
    have e1 : i = L := by omega
    subst e1
    refine br_t (nI_le (Nat.le_refl _) (by omega)) ⟨vp_in_nI hj (by decide), ?_⟩
    rw [nI_clamp (show j < 2 ^ 31 by omega), hk]
    exact br_f (by decide) h
  | d + 1, i, x6, x9, hd, h6, h9 => by
    subst h6 h9
    refine br_f (nI_ge (by omega) (by omega)) ?_
    rw [ed_ix, nI_clamp (show 8 * j + i < 2 ^ 31 by omega), (hsn i (by omega)).1]
    refine ⟨vp_in_nI (by omega) (by decide), br_c (fun z => nm_e ?_) (fun z => nm_e (nm_e ?_))⟩
    · exact ys_cntL hj hk hL hsn h d (i + 1) _ _ (by omega) (by rw [pi_cn (Int32.not_lt.mpr z)]) (nI_1 i)
    · exact ys_cntL hj hk hL hsn h d (i + 1) _ _ (by omega) (by rw [pi_cs (Int32.not_le.mp z)]; exact nI_1 _) (nI_1 i)
theorem sp_pair (hj : j < 12) (R : it_R kd pl wd tm dg dc ss pc ln sn sd j K A W T D B S L) (hx : it_X ix T e) (hK : K = 1 ∨ K = 3) (ok : st_ok st) (hm : m < 9000000000) (hh : has ≤ 9) (hs : s = true → 0 < m) :
    ∃ st' dr' oth', st_ok st' ∧ (∀ post, post (cn, ck, fp, pg, ob, hr, sp, ix, sz, pf, sc, st', kd, pl, wd, tm, dg, dc, ss, pc, op, ox, oy, oz, ps, jp, oi, pa, pt, sh, lc, rc, dr') → wpX_store post (cn, ck, fp, pg, ob, hr, sp, ix, sz, pf, sc, st, kd, pl, wd, tm, dg, dc, ss, pc, op, ox, oy, oz, ps, jp, oi, pa, pt, sh, lc, rc, dr) (nI j) (ar_l (ar_s s m)) (nI has)) ∧
      (∀ post, post (cn, fp, ck, pf, hr, sp, ix, sc, ye, sz, yj, st', kd, pl, ln, dc, tm, sn, sd, op, ox, oy, oz, sh, ch, oth', lw, hg, le, bk, fm, vy) → wpY_store post (cn, fp, ck, pf, hr, sp, ix, sc, ye, sz, yj, st, kd, pl, ln, dc, tm, sn, sd, op, ox, oy, oz, sh, ch, oth, lw, hg, le, bk, fm, vy) (nI j) (nI e) (ar_l (ar_s s m)) (nI has)) := by
  have R0 := R
  obtain ⟨⟨r1, r2, r3, r4, r5, r6, r7, r8⟩, ⟨k1, k2, k3, k4, k5, k6, k7, k8, k9, k10, k11⟩, q1, q2, q3⟩ := R0
  have hF : A + (e - 1) * W + W ≤ 96 := it_F k8 hx.1 hx.2.1
  have hN := dg_Nlt (has := has) hm k10
  have hMd : ∀ k, k < D → dg_N m has B % 10 ^ D / 10 ^ k % 10 = dg_d m has B k := fun k hk => by rw [dg_mod _ _ _ hk, dg_Nd]
  have hMl : dg_N m has B % 10 ^ D < 10 ^ D := Nat.mod_lt _ (ar_pp D)
  rcases hK with hK | hK
  · subst hK
    obtain ⟨qa, qb, qc, qd⟩ := q1 rfl
    subst qa
    refine ⟨sr_x st (A + (e - 1) * W) S W s (dg_N m has B % 10 ^ D), dr, sg_put oth 0 0 D (ys_o m has B D), sr_ok ok, fun post hp => ?_, fun post hp => ?_⟩
    · exact xs_store hj R hx hm hh (xs_40 hj R hN (fun z => absurd z (by decide)) (fun _ => xs_num hj R hF hMl qb hp))
    · refine ys_num hj R rfl hx.1 hx.2.1 (by omega) hh hs ?_
      rw [ys_eq (b := bl_f s (ys_g m has B D) D) (s := s) (M := dg_N m has B % 10 ^ D) (W := W) k7 k9 (bl_eq s m has B D) hMd]
      exact hp
  · subst hK
    obtain ⟨qb, qa, qc, qd⟩ := q3 rfl
    have qs := q2 (by decide)
    subst qs
    have eW : W = L := k7
    subst eW
    have hD8 : D ≤ 8 := by have := pi_le (pc j) W W; omega
    have hbl := bl_eq s m has B D
    have hM18 : dg_N m has B % 10 ^ D < 1000000000 := Nat.lt_of_lt_of_le hMl (Nat.pow_le_pow_right (n := 10) (by decide) k11)
    have hx3 : 0 ≤ ar_l (ar_s s (dg_N m has B % 10 ^ D)) ↔ bl_f s (ys_g m has B D) D = false := by
      rw [ar_le0 (ar_sB (by omega))]
      have h1 := ar_neg0 s (dg_N m has B % 10 ^ D)
      cases hb : bl_f s (ys_g m has B D) D with
      | false =>
        refine ⟨fun _ => rfl, fun _ => ?_⟩
        have : ¬ ar_s s (dg_N m has B % 10 ^ D) < 0 := fun z => absurd (hb.symm.trans (hbl.mpr (h1.mp z))) (by decide)
        omega
      | true =>
        refine ⟨fun z => ?_, fun z => absurd z (by decide)⟩
        have := h1.mpr (hbl.mp hb)
        omega
    obtain ⟨st', ok', hX, hY⟩ := ed_loop (b := bl_f s (ys_g m has B D) D) (x3 := ar_l (ar_s s (dg_N m has B % 10 ^ D))) (cn := cn) (ck := ck) (fp := fp) (pg := pg) (ob := ob) (hr := hr) (sp := sp) (ix := ix) (sz := sz) (pf := pf) (sc := sc) (ye := ye) (yj := yj) (kd := kd) (pl := pl) (wd := wd) (tm := tm) (dg := dg) (dc := dc) (ss := ss) (pc := pc) (op := op) (ox := ox) (oy := oy) (oz := oz) (ps := ps) (jp := jp) (oi := oi) (pa := pa) (pt := pt) (sh := sh) (lc := lc) (rc := rc) (dr := sg_put dr 0 0 D (sr_f (dg_N m has B % 10 ^ D) D)) (ln := ln) (sn := sn) (sd := sd) (ch := ch) (oth := sg_put oth 0 0 D (ys_o m has B D)) (lw := lw) (hg := hg) (le := le) (bk := bk) (fm := fm) (vy := vy) (F := A + (e - 1) * W)
      hj r3 r8 qb qa.symm hD8 qd hF (fun i hi => by
        rw [sg_in0 _ _ _ _ (Nat.zero_le _) hi, sg_in0 _ _ _ _ (Nat.zero_le _) hi]
        refine ⟨?_, nI_pos (Nat.lt_of_lt_of_le (Nat.mod_lt _ (by decide)) (by decide))⟩
        unfold sr_f ys_o
        rw [hMd _ (by omega)]) hx3 W 0 st true 10 10 (by omega) ok (fun _ => ⟨rfl, by decide⟩)
    have v : vp_in (nI j) 12 := vp_in_nI hj (by decide)
    refine ⟨st', sg_put dr 0 0 D (sr_f (dg_N m has B % 10 ^ D) D), sg_put oth 0 0 D (ys_o m has B D), ok', fun post hp => ?_, fun post hp => ?_⟩
    · refine xs_store hj R hx hm hh (xs_40 hj R hN (fun _ => ?_) (fun z => absurd rfl z))
      refine ar_ab (by omega) (fun z => wX_putEdited_12 _ (nI j) _ _ z cn ck fp pg ob hr sp ix sz pf sc st kd pl wd tm dg dc ss pc op ox oy oz ps jp oi pa pt sh lc rc dr) ⟨v, ?_⟩
      rw [nI_clamp (show j < 2 ^ 31 by omega), r5]
      refine nm_e ⟨D + 1, xe_digL hj r3 hD8 (by omega) ⟨_, hX _ hp⟩ D _ _ _ (Nat.le_refl _) (by rw [Nat.sub_self, Nat.pow_zero, Nat.div_one]) rfl (sg_0 _ _ _ _).symm⟩
    · unfold wpY_store
      refine yi_spot hj R hx.1 ?_
      refine ⟨v, ?_⟩
      rw [nI_clamp (show j < 2 ^ 31 by omega), r1, r8]
      refine br_t rfl ⟨v, nm_e ⟨W + 1, ys_cntL hj r1 qb qd ?_ W 0 _ _ (by omega) rfl rfl⟩⟩
      rw [← qa]
      refine ⟨D + 1, ys_digL hj r6 k10 (by omega) (by omega) hh hs (fun n => ?_) D 0 _ _ _ (by omega) rfl rfl (sg_0 _ _ _ _).symm⟩
      refine br_t (nI_le (Nat.le_refl _) (by omega)) ⟨v, ?_⟩
      rw [nI_clamp (show j < 2 ^ 31 by omega), r1]
      exact br_t rfl ⟨_, hY _ hp⟩
end
