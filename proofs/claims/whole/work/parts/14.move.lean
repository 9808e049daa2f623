/-! an operand that is a number or an item; MOVE -/
def od_P (ix : Int32) (st kd pl wd tm dg dc ss pc ln sn sd : Nat → Int32) (x z : Int32) (V : Int) (d : Nat) : Prop :=
  (x = 16 ∧ V = z.toInt ∧ d = 0) ∨ (∃ j K A W T D B S L e, j < 12 ∧ x = nI j ∧ it_R kd pl wd tm dg dc ss pc ln sn sd j K A W T D B S L ∧ it_X ix T e ∧ V = vl_v st K (A + (e - 1) * W) W S ∧ d = B)
theorem vl_nn {st : Nat → Int32} {K F W S : Nat} : (vl_v st K F W S).natAbs = vl_m st K F W S := by
  unfold vl_v
  cases vl_s st K F W S
  · rfl
  · show (-((vl_m st K F W S : Nat) : Int)).natAbs = _
    rw [Int.natAbs_neg]
    rfl
theorem od_b {ix : Int32} {st kd pl wd tm dg dc ss pc ln sn sd : Nat → Int32} {x z : Int32} {V : Int} {d : Nat} (h : od_P ix st kd pl wd tm dg dc ss pc ln sn sd x z V d) : V.natAbs ≤ 2147483648 ∧ d ≤ 9 := by
  rcases h with ⟨-, e1, e2⟩ | ⟨j, K, A, W, T, D, B, S, L, e, -, -, R, -, e1, e2⟩
  · have := ar_zB z
    omega
  · obtain ⟨-, ⟨k1, k2, k3, k4, k5, k6, k7, k8, k9, k10, k11⟩, q1, -, -⟩ := R
    rw [e1, vl_nn]
    have := vl_lt st K (A + (e - 1) * W) W S (fun w => by have := (q1 w).2.1; omega)
    omega
theorem nI_16 {j : Nat} (h : j < 12) : ¬ nI j = 16 := fun z => by have := (nI_eq (b := 16) (by omega) (by decide)).mp z; omega
section
variable {cn ck fp pg ob hr sp ix sz pf sc ye yj : Int32}
variable {st kd pl wd tm dg dc ss pc op ox oy oz ps jp oi pa pt sh lc rc dr ln sn sd ch oth lw hg le bk fm vy : Nat → Int32}
variable {K A W T D B S L e j F M m has N n : Nat} {s : Bool} {V : Int} {x z : Int32} {d : Nat}
theorem xo_val {post : Int64 → Prop} (ok : st_ok st) (O : od_P ix st kd pl wd tm dg dc ss pc ln sn sd x z V d) (h : post (ar_l V)) : wpX_operandValue post (cn, ck, fp, pg, ob, hr, sp, ix, sz, pf, sc, st, kd, pl, wd, tm, dg, dc, ss, pc, op, ox, oy, oz, ps, jp, oi, pa, pt, sh, lc, rc, dr) x z := by
  rcases O with ⟨e0, e1, e2⟩ | ⟨j, K, A, W, T, D, B, S, L, e, hj, e0, R, hx, e1, e2⟩
  · subst e0 e1
    exact br_t rfl h
  · subst e0 e1
    have hF : A + (e - 1) * W + W ≤ 96 := it_F R.2.1.2.2.2.2.2.2.2.1 hx.1 hx.2.1
    exact br_f (nI_16 hj) (xi_place hj R hx (xv_value hj R hF ok h))
theorem xo_dec {post : Int32 → Prop} (O : od_P ix st kd pl wd tm dg dc ss pc ln sn sd x z V d) (h : post (nI d)) : wpX_operandDecimals post (cn, ck, fp, pg, ob, hr, sp, ix, sz, pf, sc, st, kd, pl, wd, tm, dg, dc, ss, pc, op, ox, oy, oz, ps, jp, oi, pa, pt, sh, lc, rc, dr) x := by
  rcases O with ⟨e0, e1, e2⟩ | ⟨j, K, A, W, T, D, B, S, L, e, hj, e0, R, hx, e1, e2⟩
  · subst e0 e2
    exact br_t rfl h
  · subst e0 e2
    exact xi_dec hj R h
/-- an item that is no text takes a value -/
theorem mv_num (ok : st_ok st) (O : od_P ix st kd pl wd tm dg dc ss pc ln sn sd x z V d) (hj : j < 12) (R : it_R kd pl wd tm dg dc ss pc ln sn sd j K A W T D B S L) (hx : it_X ix T e) (hK : K = 1 ∨ K = 3) :
    ∃ st' dr' oth', st_ok st' ∧ (∀ post, post (cn, ck, fp, pg, ob, hr, sp, ix, sz, pf, sc, st', kd, pl, wd, tm, dg, dc, ss, pc, op, ox, oy, oz, ps, jp, oi, pa, pt, sh, lc, rc, dr') → wpX_move post (cn, ck, fp, pg, ob, hr, sp, ix, sz, pf, sc, st, kd, pl, wd, tm, dg, dc, ss, pc, op, ox, oy, oz, ps, jp, oi, pa, pt, sh, lc, rc, dr) x (nI j) z) ∧ (∀ post, post (cn, fp, ck, pf, hr, sp, ix, sc, ye, sz, yj, st', kd, pl, ln, dc, tm, sn, sd, op, ox, oy, oz, sh, ch, oth', lw, hg, le, bk, fm, vy) → wpY_move post (cn, fp, ck, pf, hr, sp, ix, sc, ye, sz, yj, st, kd, pl, ln, dc, tm, sn, sd, op, ox, oy, oz, sh, ch, oth, lw, hg, le, bk, fm, vy) x (nI j) z) := by
  obtain ⟨s, m, e1, e2, e3⟩ := ar_ex V
  obtain ⟨b1, b2⟩ := od_b O
  obtain ⟨st', dr', oth', ok', hX, hY⟩ := sp_pair (cn := cn) (ck := ck) (fp := fp) (pg := pg) (ob := ob) (hr := hr) (sp := sp) (ix := ix) (sz := sz) (pf := pf) (sc := sc) (ye := ye) (yj := yj) (st := st) (kd := kd) (pl := pl) (wd := wd) (tm := tm) (dg := dg) (dc := dc) (ss := ss) (pc := pc) (op := op) (ox := ox) (oy := oy) (oz := oz) (ps := ps) (jp := jp) (oi := oi) (pa := pa) (pt := pt) (sh := sh) (lc := lc) (rc := rc) (dr := dr) (ln := ln) (sn := sn) (sd := sd) (ch := ch) (oth := oth) (lw := lw) (hg := hg) (le := le) (bk := bk) (fm := fm) (vy := vy) (s := s) (m := m) (has := d) hj R hx hK ok (by omega) b2 (fun w => by have := e3.mp w; omega)
  have r1 := R.1.1
  have r6 := R.1.2.2.2.2.2.1
  have k2 := R.2.1.2.1
  rw [← e1] at hX hY
  refine ⟨st', dr', oth', ok', fun post hp => ?_, fun post hp => ?_⟩
  · unfold wpX_move
    refine xi_sort ?_ (fun _ => br_t rfl (xo_val ok O (xo_dec O (hX _ hp))))
    intro w
    obtain ⟨i, hi, ei, w⟩ := w
    rw [nI_eq (by omega) (by omega)] at ei
    subst ei
    rw [r1] at w
    have := (nI_eq (b := 2) (by omega) (by decide)).mp w
    omega
  · refine ⟨vp_in_nI hj (by decide), ?_⟩
    rw [nI_clamp (show j < 2 ^ 31 by omega), r1]
    refine br_f (fun w => by have := (nI_eq (b := 2) (by omega) (by decide)).mp w; omega) ?_
    rcases O with ⟨f0, f1, f2⟩ | ⟨j', K', A', W', T', D', B', S', L', e', hj', f0, R', hx', f1, f2⟩
    · subst f0 f1 f2
      refine br_t rfl ?_
      unfold wY_move_31
      refine yi_elem hj R hx (br_t rfl ?_)
      exact hY _ hp
    · subst f0 f1 f2
      refine br_f (nI_16 hj') (yi_elem hj' R' hx' (yv_value hj' R' hx'.1 hx'.2.1 ok ?_))
      unfold wY_move_31
      refine yi_elem hj R hx (br_f (nI_16 hj') ⟨vp_in_nI hj' (by decide), ?_⟩)
      rw [nI_clamp (show j' < 2 ^ 31 by omega), R'.1.2.2.2.2.2.1]
      exact hY _ hp
theorem mt_xL {post : SX → Prop} {t : Nat → Int32} (hj : j < 12) (hw : wd j = nI W) (hW : W ≤ 12) (hF : F + W ≤ 96) (ht : ∀ i, i < 12 → lc i = t i) (h : post (cn, ck, fp, pg, ob, hr, sp, ix, sz, pf, sc, sg_put st F 0 W t, kd, pl, wd, tm, dg, dc, ss, pc, op, ox, oy, oz, ps, jp, oi, pa, pt, sh, lc, rc, dr)) : ∀ (d i : Nat) (x5 : Int32) (q : Nat → Int32), i + d = W → x5 = nI i → q = sg_put st F 0 i t →
    wX_move_70 post (nI j) (nI F) cn ck fp pg ob hr sp ix sz pf sc (d + 1) x5 q kd pl wd tm dg dc ss pc op ox oy oz ps jp oi pa pt sh lc rc dr
  | 0, i, x5, q, hd, h5, hq => by
    subst h5 hq
    have e1 : i = W := by omega
    subst e1
    refine ⟨vp_in_nI hj (by decide), ?_⟩
    rw [nI_clamp (show j < 2 ^ 31 by omega), hw]
    exact br_t (nI_le (Nat.le_refl _) (by omega)) h
  | d + 1, i, x5, q, hd, h5, hq => by
    subst h5 hq
    refine ⟨vp_in_nI hj (by decide), ?_⟩
    rw [nI_clamp (show j < 2 ^ 31 by omega), hw]
    refine br_f (nI_ge (by omega) (by omega)) ?_
    rw [nI_add, nI_clamp (show F + i < 2 ^ 31 by omega), nI_clamp (show i < 2 ^ 31 by omega), ht i (by omega)]
    exact ⟨vp_in_nI (by omega) (by decide), vp_in_nI (by omega) (by decide), nm_r (sg_up st F 0 i t (by omega)) (nm_e (mt_xL hj hw hW hF ht h d (i + 1) _ _ (by omega) (nI_1 i) rfl))⟩
theorem mt_yL {post : SY → Prop} {t : Nat → Int32} {u : Nat} (hj : j < 12) (hw : ln j = nI W) (hW : W ≤ 12) (hF : F + W ≤ 96) (hu : u < 2 ^ 31) (ht : ∀ i, i < u → ch i = t i) (ht2 : ∀ i, u ≤ i → t i = 10) (h : post (cn, fp, ck, pf, hr, sp, ix, sc, ye, sz, yj, sg_put st F 0 W t, kd, pl, ln, dc, tm, sn, sd, op, ox, oy, oz, sh, ch, oth, lw, hg, le, bk, fm, vy)) : ∀ (d i : Nat) (x6 : Int32) (q : Nat → Int32), i + d = W → x6 = nI i → q = sg_put st F 0 i t →
    wY_move_99 post (nI j) (nI u) (nI F) cn fp ck pf hr sp ix sc ye sz yj (d + 1) x6 q kd pl ln dc tm sn sd op ox oy oz sh ch oth lw hg le bk fm vy
  | 0, i, x5, q, hd, h5, hq => by
    subst h5 hq
    have e1 : i = W := by omega
    subst e1
    refine ⟨vp_in_nI hj (by decide), ?_⟩
    rw [nI_clamp (show j < 2 ^ 31 by omega), hw]
    exact br_t (nI_le (Nat.le_refl _) (by omega)) h
  | d + 1, i, x5, q, hd, h5, hq => by
    subst h5 hq
    refine ⟨vp_in_nI hj (by decide), ?_⟩
    rw [nI_clamp (show j < 2 ^ 31 by omega), hw]
    refine br_f (nI_ge (by omega) (by omega)) ?_
    rw [nI_add, nI_clamp (show F + i < 2 ^ 31 by omega), nI_clamp (show i < 2 ^ 31 by omega)]
    have IH := mt_yL hj hw hW hF hu ht ht2 h d (i + 1) _ _ (by omega) (nI_1 i) rfl
    have up := sg_up st F 0 i t (by omega)
    by_cases c : i < u
    · rw [ht i c]
      exact br_f (nI_ge c hu) ⟨vp_in_nI (by omega) (by decide), vp_in_nI (by omega) (by decide), nm_r up (nm_e IH)⟩
    · rw [ht2 i (by omega)] at up
      exact br_t (nI_le (by omega) (by omega)) ⟨vp_in_nI (by omega) (by decide), nm_r up (nm_e IH)⟩
/-- a text takes characters -/
theorem mv_txt (ok : st_ok st) (O : od_P ix st kd pl wd tm dg dc ss pc ln sn sd x z V d) (hj : j < 12) (R : it_R kd pl wd tm dg dc ss pc ln sn sd j K A W T D B S L) (hx : it_X ix T e) (hK : K = 2) :
    ∃ st' lc' ch', st_ok st' ∧ (∀ post, post (cn, ck, fp, pg, ob, hr, sp, ix, sz, pf, sc, st', kd, pl, wd, tm, dg, dc, ss, pc, op, ox, oy, oz, ps, jp, oi, pa, pt, sh, lc', rc, dr) → wpX_move post (cn, ck, fp, pg, ob, hr, sp, ix, sz, pf, sc, st, kd, pl, wd, tm, dg, dc, ss, pc, op, ox, oy, oz, ps, jp, oi, pa, pt, sh, lc, rc, dr) x (nI j) z) ∧ (∀ post, post (cn, fp, ck, pf, hr, sp, ix, sc, ye, sz, yj, st', kd, pl, ln, dc, tm, sn, sd, op, ox, oy, oz, sh, ch', oth, lw, hg, le, bk, fm, vy) → wpY_move post (cn, fp, ck, pf, hr, sp, ix, sc, ye, sz, yj, st, kd, pl, ln, dc, tm, sn, sd, op, ox, oy, oz, sh, ch, oth, lw, hg, le, bk, fm, vy) x (nI j) z) := by
  have R0 := R
  obtain ⟨⟨r1, r2, r3, r4, r5, r6, r7, r8⟩, ⟨k1, k2, k3, k4, k5, k6, k7, k8, k9, k10, k11⟩, q1, q2, -⟩ := R0
  subst hK
  have qs := q2 (by decide)
  subst qs
  have eW : W = L := k7
  subst eW
  have hF : A + (e - 1) * W + W ≤ 96 := it_F k8 hx.1 hx.2.1
  have hsx : ft_s kd (nI j) 2 := ⟨j, hj, rfl, r1⟩
  -- both sides from behind the taking of characters
  have goX : ∀ (t lc' : Nat → Int32) post, (∀ i, i < 12 → lc' i = t i) → post (cn, ck, fp, pg, ob, hr, sp, ix, sz, pf, sc, sg_put st (A + (e - 1) * W) 0 W t, kd, pl, wd, tm, dg, dc, ss, pc, op, ox, oy, oz, ps, jp, oi, pa, pt, sh, lc', rc, dr) → wX_move_60 post (nI j) cn ck fp pg ob hr sp ix sz pf sc st kd pl wd tm dg dc ss pc op ox oy oz ps jp oi pa pt sh lc' rc dr := fun t lc' post ht hp => by
    unfold wX_move_60
    exact xi_place hj R hx ⟨W + 1, mt_xL hj r3 k6 hF ht hp W 0 _ _ (by omega) rfl (sg_0 _ _ _ _).symm⟩
  have goY : ∀ (t ch' : Nat → Int32) (u : Nat) post, u < 2 ^ 31 → (∀ i, i < u → ch' i = t i) → (∀ i, u ≤ i → t i = 10) → post (cn, fp, ck, pf, hr, sp, ix, sc, ye, sz, yj, sg_put st (A + (e - 1) * W) 0 W t, kd, pl, ln, dc, tm, sn, sd, op, ox, oy, oz, sh, ch', oth, lw, hg, le, bk, fm, vy) → wY_move_82 post (nI j) (nI u) cn fp ck pf hr sp ix sc ye sz yj st kd pl ln dc tm sn sd op ox oy oz sh ch' oth lw hg le bk fm vy := fun t ch' u post hu ht ht2 hp => by
    unfold wY_move_82
    exact yi_elem hj R hx (yi_spot hj R hx.1 ⟨W + 1, mt_yL hj r8 k6 hF hu ht ht2 hp W 0 _ _ (by omega) rfl (sg_0 _ _ _ _).symm⟩)
  have hin : ∀ (f g : Nat → Int32) (h0 : Nat) i, i < h0 → sg_put g 0 0 h0 f i = f i := fun f g h0 i hi => sg_in0 _ _ _ _ (Nat.zero_le _) hi
  rcases O with ⟨f0, f1, f2⟩ | ⟨j', K', A', W', T', D', B', S', L', e', hj', f0, R', hx', f1, f2⟩
  · subst f0
    obtain ⟨n, hn⟩ := nd_ex (m := z.toInt.natAbs) (by have := ar_zB z; omega)
    have n2 := hn.2.1
    refine ⟨sg_put st (A + (e - 1) * W) 0 W (nd_t z.toInt.natAbs n), sg_put lc 0 0 12 (nd_t z.toInt.natAbs n), sg_put ch 0 0 n (nd_t z.toInt.natAbs n), st_okp ok (fun i _ _ => ?_), fun post hp => ?_, fun post hp => ?_⟩
    · unfold nd_t
      by_cases c : i < n
      · rw [if_pos c]
        exact nI_pos (Nat.lt_of_lt_of_le (Nat.mod_lt _ (by decide)) (by decide))
      · rw [if_neg c]; decide
    · unfold wpX_move
      exact xi_sort (fun _ => br_f (by decide) (br_t rfl (xt_dig hn (goX _ _ post (hin _ _ _) hp)))) (fun w => absurd hsx w)
    · refine ⟨vp_in_nI hj (by decide), ?_⟩
      rw [nI_clamp (show j < 2 ^ 31 by omega), r1]
      exact br_t rfl (br_t rfl (yt_spell hn (goY _ _ n post (by omega) (hin _ _ _) (fun i hi => if_neg (by omega)) hp)))
  · subst f0
    have R1 := R'
    obtain ⟨-, ⟨k1', k2', k3', k4', k5', k6', k7', k8', k9', k10', k11'⟩, q1', q2', -⟩ := R1
    refine ⟨sg_put st (A + (e - 1) * W) 0 W (tx_c st (A' + (e' - 1) * W' + S') (W' - S')), sg_put lc 0 0 12 (tx_c st (A' + (e' - 1) * W' + S') (W' - S')), sg_put ch 0 0 (W' - S') (fun i => st (A' + (e' - 1) * W' + S' + i)), st_okp ok (fun i _ _ => ?_), fun post hp => ?_, fun post hp => ?_⟩
    · unfold tx_c
      by_cases c : i < W' - S'
      · rw [if_pos c]; exact ok _
      · rw [if_neg c]; decide
    · unfold wpX_move
      exact xi_sort (fun _ => br_f (by decide) (br_f (nI_16 hj') (xt_left hj' R' hx' (goX _ _ post (hin _ _ _) hp)))) (fun w => absurd hsx w)
    · refine ⟨vp_in_nI hj (by decide), ?_⟩
      rw [nI_clamp (show j < 2 ^ 31 by omega), r1]
      refine br_t rfl (br_f (nI_16 hj') (yt_take hj' R' hx' (Or.inl ⟨rfl, rfl⟩) (goY (tx_c st (A' + (e' - 1) * W' + S') (W' - S')) _ (W' - S') post (by omega) (fun i hi => ?_) (fun i hi => if_neg (by omega)) hp)))
      rw [hin _ _ _ _ hi]
      unfold tx_c
      rw [if_pos hi]
end
