/-! an edited item's characters: both sides in step, sign by sign -/
theorem xe_sign {post : Int32 → Prop} {P : Int32} {L i : Nat} (h : post (pi_s P L i)) : wpX_signAt post P (nI L) (nI i) := h
theorem xe_isT {post : Int32 → Prop} {x : Int32} (h1 : ¬ x < 1) (h3 : ¬ 3 < x) (h : post 1) : wpX_isDigitSign post x := br_f h1 (br_f h3 h)
theorem xe_isF {post : Int32 → Prop} {x : Int32} (h1 : ¬ x < 1) (h3 : 3 < x) (h : post 0) : wpX_isDigitSign post x := br_f h1 (br_t h3 h)
theorem ed_ix (j i : Nat) : (8 : Int32) * nI j + nI i = nI (8 * j + i) := by rw [show (8 : Int32) = nI 8 from rfl, pk_mul, nI_add]
theorem ed_ok {q : Nat → Int32} {k : Nat} {c : Int32} (h : st_ok q) (hc : ¬ c < 0) : st_ok (upd q k c) := by
  intro i
  unfold upd
  by_cases e : i = k
  · rw [if_pos e]; exact hc
  · rw [if_neg e]; exact h i
section
variable {cn ck fp pg ob hr sp ix sz pf sc ye yj : Int32}
variable {st kd pl wd tm dg dc ss pc op ox oy oz ps jp oi pa pt sh lc rc dr ln sn sd ch oth lw hg le bk fm vy : Nat → Int32}
variable {K A W T D B S L e j F M m has : Nat} {s a b : Bool}
theorem xe_digL {post : SX → Prop} {x3 : Int64} (hj : j < 12) (hw : wd j = nI W) (hD : D ≤ 8) (hM : M < 9000000000000000000)
    (h : ∃ n, wX_putEdited_78 post (nI j) (nI F) x3 (nI W) cn ck fp pg ob hr sp ix sz pf sc n 0 1 10 0 st kd pl wd tm dg dc ss pc op ox oy oz ps jp oi pa pt sh lc rc (sg_put dr 0 0 D (sr_f M D))) :
    ∀ (c : Nat) (x5 : Int64) (x7 : Int32) (q : Nat → Int32), c ≤ D → x5 = ar_l ((M / 10 ^ (D - c) : Nat) : Int) → x7 = nI c - 1 → q = sg_put dr 0 c D (sr_f M D) →
    wX_putEdited_24 post (nI j) (nI F) x3 cn ck fp pg ob hr sp ix sz pf sc (c + 1) x5 x7 st kd pl wd tm dg dc ss pc op ox oy oz ps jp oi pa pt sh lc rc q
  | 0, x5, x7, q, hc, h5, h7, hq => by
    subst h5 h7 hq
    refine br_t (by decide) ⟨vp_in_nI hj (by decide), ?_⟩
    rw [nI_clamp (by omega), hw]
    exact nm_e h
  | c + 1, x5, x7, q, hc, h5, h7, hq => by
    subst h5 h7 hq
    have hq : M / 10 ^ (D - (c + 1)) ≤ M := Nat.div_le_self _ _
    rw [nI_pred]
    refine br_f (nI_pos (by omega)) ⟨by decide, vp_in_nI (by omega) (by decide), ?_⟩
    rw [nI_clamp (show c < 2 ^ 31 by omega), ar_i10 (by omega)]
    refine nm_e ⟨by decide, nm_e (nm_e (xe_digL hj hw hD hM h c _ _ _ (by omega) ?_ (sr_add _) ?_))⟩
    · rw [ar_dn (by omega), Nat.div_div_eq_div_mul, ← Nat.pow_succ, show (D - (c + 1)).succ = D - c from by omega]
    · have := sg_dn0 dr c D (sr_f M D) (by omega)
      rw [← this]
      show upd _ _ _ = upd _ _ (nI (M / 10 ^ (D - 1 - c) % 10))
      rw [show D - 1 - c = D - (c + 1) from by omega]
theorem xe_239 {post : SX → Prop} {J : Int32 → Int32 → Int32 → Int32 → (Nat → Int32) → (Nat → Int32) → (Nat → Int32) → (Nat → Int32) → (Nat → Int32) → (Nat → Int32) → (Nat → Int32) → (Nat → Int32) → (Nat → Int32) → (Nat → Int32) → (Nat → Int32) → (Nat → Int32) → (Nat → Int32) → (Nat → Int32) → (Nat → Int32) → (Nat → Int32) → (Nat → Int32) → (Nat → Int32) → (Nat → Int32) → (Nat → Int32) → (Nat → Int32) → (Nat → Int32) → Prop} {x1 x7 x8 x9 x10 c : Int32} {x3 : Int64} {i : Nat} {q : Nat → Int32} (hi : F + i < 96)
    (h : J x8 x9 x10 (nI i + 1) (upd q (F + i) c) kd pl wd tm dg dc ss pc op ox oy oz ps jp oi pa pt sh lc rc dr) : wX_putEdited_239 post J x1 (nI F) x3 x7 x8 x9 x10 (nI i) c cn ck fp pg ob hr sp ix sz pf sc q kd pl wd tm dg dc ss pc op ox oy oz ps jp oi pa pt sh lc rc dr := by
  have e1 : nI F + nI i = nI (F + i) := nI_add _ _
  refine ⟨by rw [e1]; exact vp_in_nI hi (by decide), nm_r (by rw [e1, nI_clamp (by omega)]) (nm_e h)⟩
theorem ye_175 {post : SY → Prop} {J : Int32 → Int32 → Int32 → Int32 → (Nat → Int32) → (Nat → Int32) → (Nat → Int32) → (Nat → Int32) → (Nat → Int32) → (Nat → Int32) → (Nat → Int32) → (Nat → Int32) → (Nat → Int32) → (Nat → Int32) → (Nat → Int32) → (Nat → Int32) → (Nat → Int32) → (Nat → Int32) → (Nat → Int32) → (Nat → Int32) → (Nat → Int32) → (Nat → Int32) → (Nat → Int32) → (Nat → Int32) → (Nat → Int32) → Prop} {x1 x3 x4 x5 x6 c : Int32} {i : Nat} {q : Nat → Int32} (hi : F + i < 96)
    (h : J x4 x5 x6 (nI i + 1) (upd q (F + i) c) kd pl ln dc tm sn sd op ox oy oz sh ch oth lw hg le bk fm vy) : wY_edit_175 post J x1 (nI F) x3 x4 x5 x6 (nI i) c cn fp ck pf hr sp ix sc ye sz yj q kd pl ln dc tm sn sd op ox oy oz sh ch oth lw hg le bk fm vy := by
  have e1 : nI F + nI i = nI (F + i) := nI_add _ _
  refine ⟨by rw [e1]; exact vp_in_nI hi (by decide), nm_r (by rw [e1, nI_clamp (by omega)]) (nm_e h)⟩
theorem ed_loop {x3 : Int64} (hj : j < 12) (hw : wd j = nI L) (hl : ln j = nI L) (hL : L ≤ 8) (hD : pi_c (pc j) L L = D) (hD8 : D ≤ 8) (hsn : ∀ k, k < L → sn (8 * j + k) = pi_s (pc j) L k ∧ pi_s (pc j) L k ≠ 0) (hF : F + L ≤ 96)
    (hdr : ∀ i, i < D → dr i = oth i ∧ ¬ dr i < 0) (hx3 : 0 ≤ x3 ↔ b = false) : ∀ (d i : Nat) (q : Nat → Int32) (a : Bool) (fX fY : Int32), i + d = L → st_ok q → (a = true → fX = fY ∧ ¬ fX < 0) →
    ∃ st', st_ok st' ∧ (∀ post, post (cn, ck, fp, pg, ob, hr, sp, ix, sz, pf, sc, st', kd, pl, wd, tm, dg, dc, ss, pc, op, ox, oy, oz, ps, jp, oi, pa, pt, sh, lc, rc, dr) → wX_putEdited_78 post (nI j) (nI F) x3 (nI L) cn ck fp pg ob hr sp ix sz pf sc (d + 1) (nI (pi_c (pc j) L i)) (rd_b a) fX (nI i) q kd pl wd tm dg dc ss pc op ox oy oz ps jp oi pa pt sh lc rc dr) ∧
      (∀ post, post (cn, fp, ck, pf, hr, sp, ix, sc, ye, sz, yj, st', kd, pl, ln, dc, tm, sn, sd, op, ox, oy, oz, sh, ch, oth, lw, hg, le, bk, fm, vy) → wY_edit_13 post (nI j) (nI F) (rd_b b) cn fp ck pf hr sp ix sc ye sz yj (d + 1) (nI (pi_c (pc j) L i)) fY (rd_b a) (nI i) q kd pl ln dc tm sn sd op ox oy oz sh ch oth lw hg le bk fm vy)
  | 0, i, q, a, fX, fY, hd, ok, hf => by
    have e1 : i = L := by omega
    subst e1
    refine ⟨q, ok, fun post hp => br_t (nI_le (Nat.le_refl _) (by omega)) hp, fun post hp => ⟨vp_in_nI hj (by decide), ?_⟩⟩
    rw [nI_clamp (by omega), hl]
    exact br_t (nI_le (Nat.le_refl _) (by omega)) hp
  | d + 1, i, q, a, fX, fY, hd, ok, hf => by
    have v : vp_in (nI j) 12 := vp_in_nI hj (by decide)
    have cj : (nI j).toNatClampNeg = j := nI_clamp (by omega)
    obtain ⟨hs1, hs0⟩ := hsn i (by omega)
    have hcn0 : (nI (pi_c (pc j) L i)).toNatClampNeg = pi_c (pc j) L i := nI_clamp (by have := pi_le (pc j) L i; omega)
    have hi96 : F + i < 96 := by omega
    obtain ⟨σ, hσ8, hσ⟩ := pi_v (pc j) L i
    have IH : ∀ (n' : Nat) (c : Int32) (a' : Bool) (fX' fY' : Int32), n' = pi_c (pc j) L (i + 1) → ¬ c < 0 → (a' = true → fX' = fY' ∧ ¬ fX' < 0) → ∃ st', st_ok st' ∧ (∀ post, post (cn, ck, fp, pg, ob, hr, sp, ix, sz, pf, sc, st', kd, pl, wd, tm, dg, dc, ss, pc, op, ox, oy, oz, ps, jp, oi, pa, pt, sh, lc, rc, dr) → wX_putEdited_78 post (nI j) (nI F) x3 (nI L) cn ck fp pg ob hr sp ix sz pf sc (d + 1) (nI n') (rd_b a') fX' (nI i + 1) (upd q (F + i) c) kd pl wd tm dg dc ss pc op ox oy oz ps jp oi pa pt sh lc rc dr) ∧ (∀ post, post (cn, fp, ck, pf, hr, sp, ix, sc, ye, sz, yj, st', kd, pl, ln, dc, tm, sn, sd, op, ox, oy, oz, sh, ch, oth, lw, hg, le, bk, fm, vy) → wY_edit_13 post (nI j) (nI F) (rd_b b) cn fp ck pf hr sp ix sc ye sz yj (d + 1) (nI n') fY' (rd_b a') (nI i + 1) (upd q (F + i) c) kd pl ln dc tm sn sd op ox oy oz sh ch oth lw hg le bk fm vy) := by
      intro n' c a' fX' fY' hn hc hf'
      subst hn
      rw [nI_1]
      exact ed_loop hj hw hl hL hD hD8 hsn hF hdr hx3 d (i + 1) (upd q (F + i) c) a' fX' fY' (by omega) (ed_ok ok hc) hf'
    rcases (show σ = 0 ∨ σ = 1 ∨ σ = 2 ∨ σ = 3 ∨ σ = 4 ∨ σ = 5 ∨ σ = 6 ∨ σ = 7 by omega) with e | e | e | e | e | e | e | e <;> subst e
    · exact absurd hσ hs0
    · have hlt : pi_s (pc j) L i < 4 := by rw [hσ]; decide
      have hn : pi_c (pc j) L i + 1 = pi_c (pc j) L (i + 1) := (pi_cs hlt).symm
      have hnD : pi_c (pc j) L i < D := by have := pi_mono (pc j) L (show i + 1 ≤ L by omega); omega
      obtain ⟨hdo, hd0⟩ := hdr _ hnD
      have eX : dr (nI (pi_c (pc j) L i)).toNatClampNeg = dr (pi_c (pc j) L i) := by rw [hcn0]
      have vX : vp_in (nI (pi_c (pc j) L i)) 8 := vp_in_nI (by omega) (by decide)
      have vY : vp_in (nI (pi_c (pc j) L i)) 32 := vp_in_nI (by omega) (by decide)
      have eN : nI (pi_c (pc j) L i) + 1 = nI (pi_c (pc j) L i + 1) := nI_1 _
      cases a with
      | false =>
        obtain ⟨st', ok', hX, hY⟩ := IH (pi_c (pc j) L i + 1) (dr (pi_c (pc j) L i)) false 10 (dr (pi_c (pc j) L i)) hn hd0 (fun z => absurd z (by decide))
        refine ⟨st', ok', fun post hp => br_f (nI_ge (by omega) (by omega)) ⟨v, ?_⟩, fun post hp => ⟨v, ?_⟩⟩
        · rw [cj]
          refine xe_sign ?_
          rw [hσ]
          exact xe_isT (by decide) (by decide) (br_f (by decide) ⟨vX, nm_r eX (nm_r eN (br_t rfl (br_f (by decide) (br_t rfl (xe_239 hi96 (hX post hp))))))⟩)
        · rw [cj, hl]
          refine br_f (nI_ge (by omega) (by omega)) ?_
          rw [ed_ix, nI_clamp (show 8 * j + i < 2 ^ 31 by omega), hs1, hσ]
          refine ⟨vp_in_nI (by omega) (by decide), nm_e ?_⟩
          have k : ∀ z0 : Int32, wY_edit_102 post (wY_edit_13 post (nI j) (nI F) (rd_b b) cn fp ck pf hr sp ix sc ye sz yj (d + 1)) (nI j) (nI F) (rd_b b) (nI (pi_c (pc j) L i)) fY (rd_b false) (nI i) 1 z0 cn fp ck pf hr sp ix sc ye sz yj q kd pl ln dc tm sn sd op ox oy oz sh ch oth lw hg le bk fm vy := by
            intro z0
            refine br_f (by decide) ?_
            have u : wY_edit_135 post (wY_edit_13 post (nI j) (nI F) (rd_b b) cn fp ck pf hr sp ix sc ye sz yj (d + 1)) (nI j) (nI F) (rd_b b) (nI (pi_c (pc j) L i)) (nI i) 1 cn fp ck pf hr sp ix sc ye sz yj q kd pl ln dc tm sn sd op ox oy oz sh ch oth lw hg le bk fm vy := by
              refine br_t rfl ⟨vY, ?_⟩
              rw [hcn0, ← hdo]
              exact nm_r eN (ye_175 hi96 (hY post hp))
            exact br_t rfl u
          exact br_f (by decide) (br_f (by decide) (br_f (by decide) (br_c (fun _ => k _) (fun _ => k _))))
      | true =>
        by_cases ht : dr (pi_c (pc j) L i) = 0
        · obtain ⟨st', ok', hX, hY⟩ := IH (pi_c (pc j) L i + 1) (dr (pi_c (pc j) L i)) false 10 (dr (pi_c (pc j) L i)) hn hd0 (fun z => absurd z (by decide))
          refine ⟨st', ok', fun post hp => br_f (nI_ge (by omega) (by omega)) ⟨v, ?_⟩, fun post hp => ⟨v, ?_⟩⟩
          · rw [cj]
            refine xe_sign ?_
            rw [hσ]
            exact xe_isT (by decide) (by decide) (br_f (by decide) ⟨vX, nm_r eX (nm_r eN (br_f (by decide) (br_t ht (br_t rfl (br_f (by decide) (br_t rfl (xe_239 hi96 (hX post hp))))))))⟩)
          · rw [cj, hl]
            refine br_f (nI_ge (by omega) (by omega)) ?_
            rw [ed_ix, nI_clamp (show 8 * j + i < 2 ^ 31 by omega), hs1, hσ]
            refine ⟨vp_in_nI (by omega) (by decide), nm_e ?_⟩
            have k : ∀ z0 : Int32, wY_edit_102 post (wY_edit_13 post (nI j) (nI F) (rd_b b) cn fp ck pf hr sp ix sc ye sz yj (d + 1)) (nI j) (nI F) (rd_b b) (nI (pi_c (pc j) L i)) fY (rd_b true) (nI i) 1 z0 cn fp ck pf hr sp ix sc ye sz yj q kd pl ln dc tm sn sd op ox oy oz sh ch oth lw hg le bk fm vy := by
              intro z0
              refine br_f (by decide) ?_
              have u : wY_edit_135 post (wY_edit_13 post (nI j) (nI F) (rd_b b) cn fp ck pf hr sp ix sc ye sz yj (d + 1)) (nI j) (nI F) (rd_b b) (nI (pi_c (pc j) L i)) (nI i) 1 cn fp ck pf hr sp ix sc ye sz yj q kd pl ln dc tm sn sd op ox oy oz sh ch oth lw hg le bk fm vy := by
                refine br_t rfl ⟨vY, ?_⟩
                rw [hcn0, ← hdo]
                exact nm_r eN (ye_175 hi96 (hY post hp))
              exact br_f (by decide) (br_t (by decide) u)
            exact br_f (by decide) (br_f (by decide) (br_f (by decide) (br_c (fun _ => k _) (fun _ => k _))))
        · obtain ⟨st', ok', hX, hY⟩ := IH (pi_c (pc j) L i + 1) (dr (pi_c (pc j) L i)) false 10 (dr (pi_c (pc j) L i)) hn hd0 (fun z => absurd z (by decide))
          refine ⟨st', ok', fun post hp => br_f (nI_ge (by omega) (by omega)) ⟨v, ?_⟩, fun post hp => ⟨v, ?_⟩⟩
          · rw [cj]
            refine xe_sign ?_
            rw [hσ]
            exact xe_isT (by decide) (by decide) (br_f (by decide) ⟨vX, nm_r eX (nm_r eN (br_f (by decide) (br_f ht (br_f (by decide) (br_t rfl (xe_239 hi96 (hX post hp)))))))⟩)
          · rw [cj, hl]
            refine br_f (nI_ge (by omega) (by omega)) ?_
            rw [ed_ix, nI_clamp (show 8 * j + i < 2 ^ 31 by omega), hs1, hσ]
            refine ⟨vp_in_nI (by omega) (by decide), nm_e ?_⟩
            have k : ∀ z0 : Int32, wY_edit_102 post (wY_edit_13 post (nI j) (nI F) (rd_b b) cn fp ck pf hr sp ix sc ye sz yj (d + 1)) (nI j) (nI F) (rd_b b) (nI (pi_c (pc j) L i)) fY (rd_b true) (nI i) 1 z0 cn fp ck pf hr sp ix sc ye sz yj q kd pl ln dc tm sn sd op ox oy oz sh ch oth lw hg le bk fm vy := by
              intro z0
              refine br_f (by decide) ?_
              have u : wY_edit_135 post (wY_edit_13 post (nI j) (nI F) (rd_b b) cn fp ck pf hr sp ix sc ye sz yj (d + 1)) (nI j) (nI F) (rd_b b) (nI (pi_c (pc j) L i)) (nI i) 1 cn fp ck pf hr sp ix sc ye sz yj q kd pl ln dc tm sn sd op ox oy oz sh ch oth lw hg le bk fm vy := by
                refine br_t rfl ⟨vY, ?_⟩
                rw [hcn0, ← hdo]
                exact nm_r eN (ye_175 hi96 (hY post hp))
              exact br_f (by decide) (br_t (by decide) u)
            exact br_f (by decide) (br_f (by decide) (br_f (by decide) (br_c (fun _ => k _) (fun _ => k _))))
    · have hlt : pi_s (pc j) L i < 4 := by rw [hσ]; decide
      have hn : pi_c (pc j) L i + 1 = pi_c (pc j) L (i + 1) := (pi_cs hlt).symm
      have hnD : pi_c (pc j) L i < D := by have := pi_mono (pc j) L (show i + 1 ≤ L by omega); omega
      obtain ⟨hdo, hd0⟩ := hdr _ hnD
      have eX : dr (nI (pi_c (pc j) L i)).toNatClampNeg = dr (pi_c (pc j) L i) := by rw [hcn0]
      have vX : vp_in (nI (pi_c (pc j) L i)) 8 := vp_in_nI (by omega) (by decide)
      have vY : vp_in (nI (pi_c (pc j) L i)) 32 := vp_in_nI (by omega) (by decide)
      have eN : nI (pi_c (pc j) L i) + 1 = nI (pi_c (pc j) L i + 1) := nI_1 _
      cases a with
      | false =>
        obtain ⟨st', ok', hX, hY⟩ := IH (pi_c (pc j) L i + 1) (dr (pi_c (pc j) L i)) false 10 (dr (pi_c (pc j) L i)) hn hd0 (fun z => absurd z (by decide))
        refine ⟨st', ok', fun post hp => br_f (nI_ge (by omega) (by omega)) ⟨v, ?_⟩, fun post hp => ⟨v, ?_⟩⟩
        · rw [cj]
          refine xe_sign ?_
          rw [hσ]
          exact xe_isT (by decide) (by decide) (br_f (by decide) ⟨vX, nm_r eX (nm_r eN (br_t rfl (br_f (by decide) (br_t rfl (xe_239 hi96 (hX post hp))))))⟩)
        · rw [cj, hl]
          refine br_f (nI_ge (by omega) (by omega)) ?_
          rw [ed_ix, nI_clamp (show 8 * j + i < 2 ^ 31 by omega), hs1, hσ]
          refine ⟨vp_in_nI (by omega) (by decide), nm_e ?_⟩
          have k : ∀ z0 : Int32, wY_edit_102 post (wY_edit_13 post (nI j) (nI F) (rd_b b) cn fp ck pf hr sp ix sc ye sz yj (d + 1)) (nI j) (nI F) (rd_b b) (nI (pi_c (pc j) L i)) fY (rd_b false) (nI i) 2 z0 cn fp ck pf hr sp ix sc ye sz yj q kd pl ln dc tm sn sd op ox oy oz sh ch oth lw hg le bk fm vy := by
            intro z0
            refine br_f (by decide) ?_
            have u : wY_edit_135 post (wY_edit_13 post (nI j) (nI F) (rd_b b) cn fp ck pf hr sp ix sc ye sz yj (d + 1)) (nI j) (nI F) (rd_b b) (nI (pi_c (pc j) L i)) (nI i) 2 cn fp ck pf hr sp ix sc ye sz yj q kd pl ln dc tm sn sd op ox oy oz sh ch oth lw hg le bk fm vy := by
              refine br_t rfl ⟨vY, ?_⟩
              rw [hcn0, ← hdo]
              exact nm_r eN (ye_175 hi96 (hY post hp))
            exact br_t rfl u
          exact br_f (by decide) (br_f (by decide) (br_f (by decide) (br_c (fun _ => k _) (fun _ => k _))))
      | true =>
        by_cases ht : dr (pi_c (pc j) L i) = 0
        · obtain ⟨st', ok', hX, hY⟩ := IH (pi_c (pc j) L i + 1) 10 true 10 10 hn (by decide) (fun _ => ⟨rfl, by decide⟩)
          refine ⟨st', ok', fun post hp => br_f (nI_ge (by omega) (by omega)) ⟨v, ?_⟩, fun post hp => ⟨v, ?_⟩⟩
          · rw [cj]
            refine xe_sign ?_
            rw [hσ]
            exact xe_isT (by decide) (by decide) (br_f (by decide) ⟨vX, nm_r eX (nm_r eN (br_f (by decide) (br_t ht (br_f (by decide) (br_f (by decide) (br_f (by decide) (xe_239 hi96 (hX post hp))))))))⟩)
          · rw [cj, hl]
            refine br_f (nI_ge (by omega) (by omega)) ?_
            rw [ed_ix, nI_clamp (show 8 * j + i < 2 ^ 31 by omega), hs1, hσ]
            refine ⟨vp_in_nI (by omega) (by decide), nm_e ?_⟩
            have k : ∀ z0 : Int32, wY_edit_102 post (wY_edit_13 post (nI j) (nI F) (rd_b b) cn fp ck pf hr sp ix sc ye sz yj (d + 1)) (nI j) (nI F) (rd_b b) (nI (pi_c (pc j) L i)) fY (rd_b true) (nI i) 2 z0 cn fp ck pf hr sp ix sc ye sz yj q kd pl ln dc tm sn sd op ox oy oz sh ch oth lw hg le bk fm vy := by
              intro z0
              refine br_f (by decide) ?_
              refine br_f (by decide) (br_f (by decide) ⟨vY, ?_⟩)
              rw [hcn0, ← hdo]
              exact br_t ht (br_f (by decide) (br_t rfl (nm_r eN (ye_175 hi96 (hY post hp)))))
            exact br_f (by decide) (br_f (by decide) (br_f (by decide) (br_c (fun _ => k _) (fun _ => k _))))
        · obtain ⟨st', ok', hX, hY⟩ := IH (pi_c (pc j) L i + 1) (dr (pi_c (pc j) L i)) false 10 (dr (pi_c (pc j) L i)) hn hd0 (fun z => absurd z (by decide))
          refine ⟨st', ok', fun post hp => br_f (nI_ge (by omega) (by omega)) ⟨v, ?_⟩, fun post hp => ⟨v, ?_⟩⟩
          · rw [cj]
            refine xe_sign ?_
            rw [hσ]
            exact xe_isT (by decide) (by decide) (br_f (by decide) ⟨vX, nm_r eX (nm_r eN (br_f (by decide) (br_f ht (br_f (by decide) (br_t rfl (xe_239 hi96 (hX post hp)))))))⟩)
          · rw [cj, hl]
            refine br_f (nI_ge (by omega) (by omega)) ?_
            rw [ed_ix, nI_clamp (show 8 * j + i < 2 ^ 31 by omega), hs1, hσ]
            refine ⟨vp_in_nI (by omega) (by decide), nm_e ?_⟩
            have k : ∀ z0 : Int32, wY_edit_102 post (wY_edit_13 post (nI j) (nI F) (rd_b b) cn fp ck pf hr sp ix sc ye sz yj (d + 1)) (nI j) (nI F) (rd_b b) (nI (pi_c (pc j) L i)) fY (rd_b true) (nI i) 2 z0 cn fp ck pf hr sp ix sc ye sz yj q kd pl ln dc tm sn sd op ox oy oz sh ch oth lw hg le bk fm vy := by
              intro z0
              refine br_f (by decide) ?_
              have u : wY_edit_135 post (wY_edit_13 post (nI j) (nI F) (rd_b b) cn fp ck pf hr sp ix sc ye sz yj (d + 1)) (nI j) (nI F) (rd_b b) (nI (pi_c (pc j) L i)) (nI i) 2 cn fp ck pf hr sp ix sc ye sz yj q kd pl ln dc tm sn sd op ox oy oz sh ch oth lw hg le bk fm vy := by
                refine br_t rfl ⟨vY, ?_⟩
                rw [hcn0, ← hdo]
                exact nm_r eN (ye_175 hi96 (hY post hp))
              refine br_f (by decide) (br_f (by decide) ⟨vY, ?_⟩)
              rw [hcn0, ← hdo]
              exact br_f ht u
            exact br_f (by decide) (br_f (by decide) (br_f (by decide) (br_c (fun _ => k _) (fun _ => k _))))
    · have hlt : pi_s (pc j) L i < 4 := by rw [hσ]; decide
      have hn : pi_c (pc j) L i + 1 = pi_c (pc j) L (i + 1) := (pi_cs hlt).symm
      have hnD : pi_c (pc j) L i < D := by have := pi_mono (pc j) L (show i + 1 ≤ L by omega); omega
      obtain ⟨hdo, hd0⟩ := hdr _ hnD
      have eX : dr (nI (pi_c (pc j) L i)).toNatClampNeg = dr (pi_c (pc j) L i) := by rw [hcn0]
      have vX : vp_in (nI (pi_c (pc j) L i)) 8 := vp_in_nI (by omega) (by decide)
      have vY : vp_in (nI (pi_c (pc j) L i)) 32 := vp_in_nI (by omega) (by decide)
      have eN : nI (pi_c (pc j) L i) + 1 = nI (pi_c (pc j) L i + 1) := nI_1 _
      cases a with
      | false =>
        obtain ⟨st', ok', hX, hY⟩ := IH (pi_c (pc j) L i + 1) (dr (pi_c (pc j) L i)) false 15 (dr (pi_c (pc j) L i)) hn hd0 (fun z => absurd z (by decide))
        refine ⟨st', ok', fun post hp => br_f (nI_ge (by omega) (by omega)) ⟨v, ?_⟩, fun post hp => ⟨v, ?_⟩⟩
        · rw [cj]
          refine xe_sign ?_
          rw [hσ]
          exact xe_isT (by decide) (by decide) (br_f (by decide) ⟨vX, nm_r eX (nm_r eN (br_t rfl (br_t rfl (br_t rfl (xe_239 hi96 (hX post hp))))))⟩)
        · rw [cj, hl]
          refine br_f (nI_ge (by omega) (by omega)) ?_
          rw [ed_ix, nI_clamp (show 8 * j + i < 2 ^ 31 by omega), hs1, hσ]
          refine ⟨vp_in_nI (by omega) (by decide), nm_e ?_⟩
          have k : ∀ z0 : Int32, wY_edit_102 post (wY_edit_13 post (nI j) (nI F) (rd_b b) cn fp ck pf hr sp ix sc ye sz yj (d + 1)) (nI j) (nI F) (rd_b b) (nI (pi_c (pc j) L i)) fY (rd_b false) (nI i) 3 z0 cn fp ck pf hr sp ix sc ye sz yj q kd pl ln dc tm sn sd op ox oy oz sh ch oth lw hg le bk fm vy := by
            intro z0
            refine br_f (by decide) ?_
            have u : wY_edit_135 post (wY_edit_13 post (nI j) (nI F) (rd_b b) cn fp ck pf hr sp ix sc ye sz yj (d + 1)) (nI j) (nI F) (rd_b b) (nI (pi_c (pc j) L i)) (nI i) 3 cn fp ck pf hr sp ix sc ye sz yj q kd pl ln dc tm sn sd op ox oy oz sh ch oth lw hg le bk fm vy := by
              refine br_t rfl ⟨vY, ?_⟩
              rw [hcn0, ← hdo]
              exact nm_r eN (ye_175 hi96 (hY post hp))
            exact br_t rfl u
          exact br_f (by decide) (br_f (by decide) (br_f (by decide) (br_c (fun _ => k _) (fun _ => k _))))
      | true =>
        by_cases ht : dr (pi_c (pc j) L i) = 0
        · obtain ⟨st', ok', hX, hY⟩ := IH (pi_c (pc j) L i + 1) 15 true 15 15 hn (by decide) (fun _ => ⟨rfl, by decide⟩)
          refine ⟨st', ok', fun post hp => br_f (nI_ge (by omega) (by omega)) ⟨v, ?_⟩, fun post hp => ⟨v, ?_⟩⟩
          · rw [cj]
            refine xe_sign ?_
            rw [hσ]
            exact xe_isT (by decide) (by decide) (br_f (by decide) ⟨vX, nm_r eX (nm_r eN (br_f (by decide) (br_t ht (br_f (by decide) (br_t rfl (br_f (by decide) (xe_239 hi96 (hX post hp))))))))⟩)
          · rw [cj, hl]
            refine br_f (nI_ge (by omega) (by omega)) ?_
            rw [ed_ix, nI_clamp (show 8 * j + i < 2 ^ 31 by omega), hs1, hσ]
            refine ⟨vp_in_nI (by omega) (by decide), nm_e ?_⟩
            have k : ∀ z0 : Int32, wY_edit_102 post (wY_edit_13 post (nI j) (nI F) (rd_b b) cn fp ck pf hr sp ix sc ye sz yj (d + 1)) (nI j) (nI F) (rd_b b) (nI (pi_c (pc j) L i)) fY (rd_b true) (nI i) 3 z0 cn fp ck pf hr sp ix sc ye sz yj q kd pl ln dc tm sn sd op ox oy oz sh ch oth lw hg le bk fm vy := by
              intro z0
              refine br_f (by decide) ?_
              refine br_f (by decide) (br_f (by decide) ⟨vY, ?_⟩)
              rw [hcn0, ← hdo]
              exact br_t ht (br_f (by decide) (br_f (by decide) (nm_r eN (ye_175 hi96 (hY post hp)))))
            exact br_f (by decide) (br_f (by decide) (br_f (by decide) (br_c (fun _ => k _) (fun _ => k _))))
        · obtain ⟨st', ok', hX, hY⟩ := IH (pi_c (pc j) L i + 1) (dr (pi_c (pc j) L i)) false 15 (dr (pi_c (pc j) L i)) hn hd0 (fun z => absurd z (by decide))
          refine ⟨st', ok', fun post hp => br_f (nI_ge (by omega) (by omega)) ⟨v, ?_⟩, fun post hp => ⟨v, ?_⟩⟩
          · rw [cj]
            refine xe_sign ?_
            rw [hσ]
            exact xe_isT (by decide) (by decide) (br_f (by decide) ⟨vX, nm_r eX (nm_r eN (br_f (by decide) (br_f ht (br_t rfl (br_t rfl (xe_239 hi96 (hX post hp)))))))⟩)
          · rw [cj, hl]
            refine br_f (nI_ge (by omega) (by omega)) ?_
            rw [ed_ix, nI_clamp (show 8 * j + i < 2 ^ 31 by omega), hs1, hσ]
            refine ⟨vp_in_nI (by omega) (by decide), nm_e ?_⟩
            have k : ∀ z0 : Int32, wY_edit_102 post (wY_edit_13 post (nI j) (nI F) (rd_b b) cn fp ck pf hr sp ix sc ye sz yj (d + 1)) (nI j) (nI F) (rd_b b) (nI (pi_c (pc j) L i)) fY (rd_b true) (nI i) 3 z0 cn fp ck pf hr sp ix sc ye sz yj q kd pl ln dc tm sn sd op ox oy oz sh ch oth lw hg le bk fm vy := by
              intro z0
              refine br_f (by decide) ?_
              have u : wY_edit_135 post (wY_edit_13 post (nI j) (nI F) (rd_b b) cn fp ck pf hr sp ix sc ye sz yj (d + 1)) (nI j) (nI F) (rd_b b) (nI (pi_c (pc j) L i)) (nI i) 3 cn fp ck pf hr sp ix sc ye sz yj q kd pl ln dc tm sn sd op ox oy oz sh ch oth lw hg le bk fm vy := by
                refine br_t rfl ⟨vY, ?_⟩
                rw [hcn0, ← hdo]
                exact nm_r eN (ye_175 hi96 (hY post hp))
              refine br_f (by decide) (br_f (by decide) ⟨vY, ?_⟩)
              rw [hcn0, ← hdo]
              exact br_f ht u
            exact br_f (by decide) (br_f (by decide) (br_f (by decide) (br_c (fun _ => k _) (fun _ => k _))))
    · have hn : pi_c (pc j) L i = pi_c (pc j) L (i + 1) := (pi_cn (by rw [hσ]; decide)).symm
      cases a with
      | false =>
        obtain ⟨st', ok', hX, hY⟩ := IH (pi_c (pc j) L i) 14 false fX fY hn (by decide) hf
        refine ⟨st', ok', fun post hp => br_f (nI_ge (by omega) (by omega)) ⟨v, ?_⟩, fun post hp => ⟨v, ?_⟩⟩
        · rw [cj]
          refine xe_sign ?_
          rw [hσ]
          exact xe_isF (by decide) (by decide) (br_t rfl (br_t rfl (br_t rfl (xe_239 hi96 (hX post hp)))))
        · rw [cj, hl]
          refine br_f (nI_ge (by omega) (by omega)) ?_
          rw [ed_ix, nI_clamp (show 8 * j + i < 2 ^ 31 by omega), hs1, hσ]
          refine ⟨vp_in_nI (by omega) (by decide), nm_e ?_⟩
          exact br_t rfl (br_t rfl (br_t (by decide) (ye_175 hi96 (hY post hp))))
      | true =>
        obtain ⟨hfe, hf0⟩ := hf rfl
        subst hfe
        obtain ⟨st', ok', hX, hY⟩ := IH (pi_c (pc j) L i) fX true fX fX hn hf0 (fun _ => ⟨rfl, hf0⟩)
        refine ⟨st', ok', fun post hp => br_f (nI_ge (by omega) (by omega)) ⟨v, ?_⟩, fun post hp => ⟨v, ?_⟩⟩
        · rw [cj]
          refine xe_sign ?_
          rw [hσ]
          exact xe_isF (by decide) (by decide) (br_t rfl (br_t rfl (br_f (by decide) (xe_239 hi96 (hX post hp)))))
        · rw [cj, hl]
          refine br_f (nI_ge (by omega) (by omega)) ?_
          rw [ed_ix, nI_clamp (show 8 * j + i < 2 ^ 31 by omega), hs1, hσ]
          refine ⟨vp_in_nI (by omega) (by decide), nm_e ?_⟩
          exact br_t rfl (br_f (by decide) (br_t (by decide) (ye_175 hi96 (hY post hp))))
    · have hn : pi_c (pc j) L i = pi_c (pc j) L (i + 1) := (pi_cn (by rw [hσ]; decide)).symm
      obtain ⟨st', ok', hX, hY⟩ := IH (pi_c (pc j) L i) 13 a fX fY hn (by decide) hf
      refine ⟨st', ok', fun post hp => br_f (nI_ge (by omega) (by omega)) ⟨v, ?_⟩, fun post hp => ⟨v, ?_⟩⟩
      · rw [cj]
        refine xe_sign ?_
        rw [hσ]
        exact xe_isF (by decide) (by decide) (br_t rfl (br_f (by decide) (br_t rfl (xe_239 hi96 (hX post hp)))))
      · rw [cj, hl]
        refine br_f (nI_ge (by omega) (by omega)) ?_
        rw [ed_ix, nI_clamp (show 8 * j + i < 2 ^ 31 by omega), hs1, hσ]
        refine ⟨vp_in_nI (by omega) (by decide), nm_e ?_⟩
        exact br_f (by decide) (br_t rfl (br_t (by decide) (ye_175 hi96 (hY post hp))))
    · have hn : pi_c (pc j) L i = pi_c (pc j) L (i + 1) := (pi_cn (by rw [hσ]; decide)).symm
      cases b with
      | false =>
        have h0 : 0 ≤ x3 := hx3.mpr rfl
        obtain ⟨st', ok', hX, hY⟩ := IH (pi_c (pc j) L i) 10 a fX fY hn (by decide) hf
        refine ⟨st', ok', fun post hp => br_f (nI_ge (by omega) (by omega)) ⟨v, ?_⟩, fun post hp => ⟨v, ?_⟩⟩
        · rw [cj]
          refine xe_sign ?_
          rw [hσ]
          exact xe_isF (by decide) (by decide) (br_t rfl (br_f (by decide) (br_f (by decide) (br_t h0 (br_f (by decide) (xe_239 hi96 (hX post hp)))))))
        · rw [cj, hl]
          refine br_f (nI_ge (by omega) (by omega)) ?_
          rw [ed_ix, nI_clamp (show 8 * j + i < 2 ^ 31 by omega), hs1, hσ]
          refine ⟨vp_in_nI (by omega) (by decide), nm_e ?_⟩
          exact br_f (by decide) (br_f (by decide) (br_t rfl (br_t rfl (br_t (by decide) (ye_175 hi96 (hY post hp))))))
      | true =>
        have h0 : ¬ 0 ≤ x3 := fun z => absurd (hx3.mp z) (by decide)
        obtain ⟨st', ok', hX, hY⟩ := IH (pi_c (pc j) L i) 11 a fX fY hn (by decide) hf
        refine ⟨st', ok', fun post hp => br_f (nI_ge (by omega) (by omega)) ⟨v, ?_⟩, fun post hp => ⟨v, ?_⟩⟩
        · rw [cj]
          refine xe_sign ?_
          rw [hσ]
          exact xe_isF (by decide) (by decide) (br_t rfl (br_f (by decide) (br_f (by decide) (br_f h0 (xe_239 hi96 (hX post hp))))))
        · rw [cj, hl]
          refine br_f (nI_ge (by omega) (by omega)) ?_
          rw [ed_ix, nI_clamp (show 8 * j + i < 2 ^ 31 by omega), hs1, hσ]
          refine ⟨vp_in_nI (by omega) (by decide), nm_e ?_⟩
          exact br_f (by decide) (br_f (by decide) (br_t rfl (br_f (by decide) (br_t (by decide) (ye_175 hi96 (hY post hp))))))
    · have hn : pi_c (pc j) L i = pi_c (pc j) L (i + 1) := (pi_cn (by rw [hσ]; decide)).symm
      cases b with
      | false =>
        have h0 : 0 ≤ x3 := hx3.mpr rfl
        obtain ⟨st', ok', hX, hY⟩ := IH (pi_c (pc j) L i) 12 a fX fY hn (by decide) hf
        refine ⟨st', ok', fun post hp => br_f (nI_ge (by omega) (by omega)) ⟨v, ?_⟩, fun post hp => ⟨v, ?_⟩⟩
        · rw [cj]
          refine xe_sign ?_
          rw [hσ]
          exact xe_isF (by decide) (by decide) (br_t rfl (br_f (by decide) (br_f (by decide) (br_t h0 (br_t rfl (xe_239 hi96 (hX post hp)))))))
        · rw [cj, hl]
          refine br_f (nI_ge (by omega) (by omega)) ?_
          rw [ed_ix, nI_clamp (show 8 * j + i < 2 ^ 31 by omega), hs1, hσ]
          refine ⟨vp_in_nI (by omega) (by decide), nm_e ?_⟩
          exact br_f (by decide) (br_f (by decide) (br_f (by decide) (br_t rfl (br_t (by decide) (ye_175 hi96 (hY post hp))))))
      | true =>
        have h0 : ¬ 0 ≤ x3 := fun z => absurd (hx3.mp z) (by decide)
        obtain ⟨st', ok', hX, hY⟩ := IH (pi_c (pc j) L i) 11 a fX fY hn (by decide) hf
        refine ⟨st', ok', fun post hp => br_f (nI_ge (by omega) (by omega)) ⟨v, ?_⟩, fun post hp => ⟨v, ?_⟩⟩
        · rw [cj]
          refine xe_sign ?_
          rw [hσ]
          exact xe_isF (by decide) (by decide) (br_t rfl (br_f (by decide) (br_f (by decide) (br_f h0 (xe_239 hi96 (hX post hp))))))
        · rw [cj, hl]
          refine br_f (nI_ge (by omega) (by omega)) ?_
          rw [ed_ix, nI_clamp (show 8 * j + i < 2 ^ 31 by omega), hs1, hσ]
          refine ⟨vp_in_nI (by omega) (by decide), nm_e ?_⟩
          exact br_f (by decide) (br_f (by decide) (br_f (by decide) (br_f (by decide) (br_t (by decide) (ye_175 hi96 (hY post hp))))))
end
