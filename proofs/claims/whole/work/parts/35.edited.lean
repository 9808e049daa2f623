/-! edited: the picture read by both sides -/
theorem ew_ex {m : Nat} (h0 : 0 < m) (h : m < 16777216) : ∃ w, 1 ≤ w ∧ w ≤ 8 ∧ m / 8 ^ w = 0 ∧ ∀ i, i < w → ¬ m / 8 ^ i = 0 := by
  have h8 : m / 8 ^ 8 = 0 := Nat.div_eq_of_lt (by rw [show 8 ^ 8 = 16777216 from by decide]; exact h)
  obtain ⟨w, h1, h2⟩ := pk_least (fun w => m / 8 ^ w = 0) ⟨8, h8⟩
  refine ⟨w, ?_, Nat.le_of_not_lt (fun z => h2 8 z h8), h1, fun i hi => h2 i hi⟩
  rcases Nat.eq_zero_or_pos w with z | z
  · subst z
    rw [Nat.pow_zero, Nat.div_one] at h1
    omega
  · exact z
theorem ew_s {q : Nat} (h : q < 2 ^ 31) : nI q >>> ((3 : Int32) &&& 31) = nI (q / 8) := pk_shrN h _ 3 (by decide)
theorem ew_d {q : Nat} (h : q < 2 ^ 31) : nI q / 8 = nI (q / 8) := pk_div (d := 8) h (by decide) (by decide)
theorem ew_n (m i : Nat) : m / 8 ^ i / 8 = m / 8 ^ (i + 1) := by rw [Nat.div_div_eq_div_mul, ← Nat.pow_succ]
theorem xw_cntL {post : Int32 → Prop} {m w : Nat} (hm : m < 2 ^ 31) (hw8 : w ≤ 8) (hw : m / 8 ^ w = 0) (hi : ∀ i, i < w → ¬ m / 8 ^ i = 0) (h : post (nI w)) : ∀ (d i : Nat) (x1 x2 x3 : Int32), i + d = w → x1 = nI (m / 8 ^ i) → x2 = nI i → x3 = nI i → wX_signCount_6 post (d + 1) x1 x2 x3
  | 0, i, x1, x2, x3, hd, h1, h2, h3 => by
    subst h1 h2 h3
    have e1 : i = w := by omega
    subst e1
    rw [hw]
    exact br_c (fun _ => br_t rfl h) (fun _ => br_t (by decide) (br_t rfl h))
  | d + 1, i, x1, x2, x3, hd, h1, h2, h3 => by
    subst h1 h2 h3
    have hq : m / 8 ^ i ≤ m := Nat.div_le_self _ _
    have hp := hi i (by omega)
    refine br_f (nI_ge (b := 8) (by omega) (by decide)) (br_f ?_ (nm_e (nm_e (nm_e (xw_cntL hm hw8 hw hi h d (i + 1) _ _ _ (by omega) ?_ (nI_1 i) (nI_1 i))))))
    · generalize m / 8 ^ i = q at *
      exact nI_nle (by omega) (by omega)
    · rw [ew_s (by omega), ew_n]
theorem xw_cntB {post : Int32 → Prop} {m : Nat} (hm : m < 2 ^ 31) (hi : ∀ i, i ≤ 8 → ¬ m / 8 ^ i = 0) (h : post 0) : ∀ (d i : Nat) (x1 x2 x3 : Int32), i + d = 8 → x1 = nI (m / 8 ^ i) → x3 = nI i → wX_signCount_6 post (d + 1) x1 x2 x3
  | 0, i, x1, x2, x3, hd, h1, h3 => by
    subst h1 h3
    have e1 : i = 8 := by omega
    subst e1
    have hq : m / 8 ^ 8 ≤ m := Nat.div_le_self _ _
    have hp := hi 8 (by omega)
    refine br_t (by decide) (br_f ?_ h)
    generalize m / 8 ^ 8 = q at *
    exact nI_ne0 (by omega) (by omega)
  | d + 1, i, x1, x2, x3, hd, h1, h3 => by
    subst h1 h3
    have hq : m / 8 ^ i ≤ m := Nat.div_le_self _ _
    have hp := hi i (by omega)
    refine br_f (nI_ge (b := 8) (by omega) (by decide)) (br_f ?_ (nm_e (nm_e (nm_e (xw_cntB hm hi h d (i + 1) _ _ _ (by omega) ?_ (nI_1 i))))))
    · generalize m / 8 ^ i = q at *
      exact nI_nle (by omega) (by omega)
    · rw [ew_s (by omega), ew_n]
def ep_pt (P : Int32) (w : Nat) : Nat → Bool
  | 0 => false
  | i + 1 => ep_pt P w i || decide (pi_s P w i = 5)
def ep_fx (P : Int32) (w : Nat) : Nat → Bool
  | 0 => false
  | i + 1 => ep_fx P w i || decide (pi_s P w i = 1)
def ep_b (P : Int32) (w : Nat) : Nat → Nat
  | 0 => 0
  | i + 1 => ep_b P w i + (if pi_s P w i < 4 ∧ ep_pt P w (i + 1) = true then 1 else 0)
theorem ep_le (P : Int32) (w : Nat) : ∀ i, ep_b P w i ≤ pi_c P w i
  | 0 => Nat.le_refl _
  | i + 1 => by
    have := ep_le P w i
    show ep_b P w i + (if pi_s P w i < 4 ∧ ep_pt P w (i + 1) = true then 1 else 0) ≤ _
    by_cases h : pi_s P w i < 4
    · rw [pi_cs h]
      split <;> omega
    · rw [pi_cn h, if_neg (fun z => h z.1)]
      omega
/-- pictureDigits: g says whether it counts, q how many so far -/
theorem xp_L {post : Int32 → Prop} {P : Int32} {w : Nat} {g : Nat → Bool} {q : Nat → Nat} (hw : w ≤ 8) (hs : ∀ i, i < w → pi_s P w i ≠ 0) (hg : ∀ i, g (i + 1) = (g i || decide (pi_s P w i = 5)))
    (hq1 : ∀ i, pi_s P w i < 4 → g (i + 1) = true → q (i + 1) = q i + 1) (hq0 : ∀ i, ¬ (pi_s P w i < 4 ∧ g (i + 1) = true) → q (i + 1) = q i) (h : post (nI (q w))) : ∀ (d i : Nat) (x3 x4 x5 : Int32), i + d = w → x3 = nI (q i) → x4 = rd_b (g i) → x5 = nI i → wX_pictureDigits_16 post P (nI w) (d + 1) x3 x4 x5
  | 0, i, x3, x4, x5, hd, h3, h4, h5 => by
    subst h3 h4 h5
    have e1 : i = w := by omega
    subst e1
    exact br_t (nI_le (Nat.le_refl _) (by omega)) h
  | d + 1, i, x3, x4, x5, hd, h3, h4, h5 => by
    subst h3 h4 h5
    have IH : ∀ x3' : Int32, x3' = nI (q (i + 1)) → wX_pictureDigits_16 post P (nI w) (d + 1) x3' (rd_b (g (i + 1))) (nI i + 1) := fun x3' e => xp_L hw hs hg hq1 hq0 h d (i + 1) _ _ _ (by omega) e rfl (nI_1 i)
    have k40 : wX_pictureDigits_40 post (wX_pictureDigits_16 post P (nI w) (d + 1)) P (nI w) (nI (q i)) (rd_b (g (i + 1))) (nI i) (pi_s P w i) := by
      cases hg1 : g (i + 1) with
      | false =>
        refine br_t rfl (nm_e ?_)
        have := IH (nI (q i)) (by rw [hq0 i (fun z => absurd (hg1.symm.trans z.2) (by decide))])
        rwa [hg1] at this
      | true =>
        refine br_f (by decide) ?_
        obtain ⟨σ, hσ8, hσ⟩ := pi_v P w i
        have hs0 := hs i (by omega)
        by_cases h4 : pi_s P w i < 4
        · have h1 : ¬ pi_s P w i < 1 := by
            rw [hσ]
            refine nI_nlt (b := 1) ?_ (by omega)
            rcases Nat.eq_zero_or_pos σ with z | z
            · subst z
              exact absurd hσ hs0
            · exact z
          have h3 : ¬ 3 < pi_s P w i := by
            rw [hσ] at h4 ⊢
            exact nI_nlt (a := 3) (by have := (nI_ltI (b := 4) (by omega) (by decide)).mp h4; omega) (by decide)
          have := IH (nI (q i) + 1) (by rw [hq1 i h4 hg1]; exact nI_1 _)
          rw [hg1] at this
          exact xe_isT h1 h3 (br_f (by decide) (nm_e (nm_e this)))
        · have h3 : 3 < pi_s P w i := by
            rw [hσ] at h4 ⊢
            refine nI_lt (a := 3) ?_ (by omega)
            have := Nat.le_of_not_lt (fun z => h4 (nI_lt (b := 4) z (by decide)))
            omega
          have h1 : ¬ pi_s P w i < 1 := fun z => h4 (Int32.lt_trans z (by decide))
          have := IH (nI (q i)) (by rw [hq0 i (fun z => h4 z.1)])
          rw [hg1] at this
          exact xe_isF h1 h3 (br_t rfl (nm_e this))
    refine br_f (nI_ge (by omega) (by omega)) (xe_sign ?_)
    have e := hg i
    by_cases h5 : pi_s P w i = 5
    · rw [decide_eq_true h5, Bool.or_true] at e
      rw [e] at k40
      exact br_t h5 k40
    · rw [decide_eq_false h5, Bool.or_false] at e
      rw [e] at k40
      exact br_f h5 k40
section
variable {cn ck fp pg ob hr sp ix sz pf sc ye yj : Int32}
variable {st kd pl wd tm dg dc ss pc op ox oy oz ps jp oi pa pt sh lc rc dr ln sn sd ch oth lw hg le bk fm vy : Nat → Int32}
variable {v1 v2 v4 P : Int32} {w : Nat}
theorem el_L (hw : w ≤ 8) : ∀ (d i : Nat), i + d = w →
    ((∀ post, post 0 → wX_isPicture_10 post P (nI w) (d + 1) (nI (pi_c P w i)) (rd_b (ep_pt P w i)) (rd_b (!(ep_fx P w i || ep_pt P w i))) (nI i)) ∧ (∀ post, post 0 (cn, fp, ck, pf, hr, sp, ix, sc, ye, sz, yj, st, kd, pl, ln, dc, tm, sn, sd, op, ox, oy, oz, sh, ch, oth, lw, hg, le, bk, fm, vy) → wY_edited_52 post v1 v2 P v4 (nI w) cn fp ck pf hr sp ix sc ye sz yj st kd pl ln dc tm sn sd op ox oy oz sh ch oth lw hg le bk fm vy (d + 1) (nI (ep_b P w i)) (nI (pi_c P w i)) (rd_b (ep_pt P w i)) (rd_b (ep_fx P w i)) (nI i))) ∨
    ((∀ k, i ≤ k → k < w → pi_s P w k ≠ 0) ∧ (∀ post : Int32 → Prop, ((nI (pi_c P w w) ≤ 0 → post 0) ∧ (¬ nI (pi_c P w w) ≤ 0 → post 1)) → wX_isPicture_10 post P (nI w) (d + 1) (nI (pi_c P w i)) (rd_b (ep_pt P w i)) (rd_b (!(ep_fx P w i || ep_pt P w i))) (nI i)) ∧
      (∀ post, wY_edited_52 post v1 v2 P v4 (nI w) cn fp ck pf hr sp ix sc ye sz yj st kd pl ln dc tm sn sd op ox oy oz sh ch oth lw hg le bk fm vy 1 (nI (ep_b P w w)) (nI (pi_c P w w)) (rd_b (ep_pt P w w)) (rd_b (ep_fx P w w)) (nI w) → wY_edited_52 post v1 v2 P v4 (nI w) cn fp ck pf hr sp ix sc ye sz yj st kd pl ln dc tm sn sd op ox oy oz sh ch oth lw hg le bk fm vy (d + 1) (nI (ep_b P w i)) (nI (pi_c P w i)) (rd_b (ep_pt P w i)) (rd_b (ep_fx P w i)) (nI i)))
  | 0, i, hd => by
    have e1 : i = w := by omega
    subst e1
    exact Or.inr ⟨fun k h1 h2 => absurd h2 (by omega), fun post hp => br_t (nI_le (Nat.le_refl _) (by omega)) hp, fun post hp => hp⟩
  | d + 1, i, hd => by
    have hge : ¬ nI w ≤ nI i := nI_ge (by omega) (by omega)
    obtain ⟨σ, hσ8, hσ⟩ := pi_v P w i
    have IH := el_L hw d (i + 1) (by omega)
    have ept : ep_pt P w (i + 1) = (ep_pt P w i || decide (pi_s P w i = 5)) := rfl
    have efx : ep_fx P w (i + 1) = (ep_fx P w i || decide (pi_s P w i = 1)) := rfl
    have eb : ep_b P w (i + 1) = ep_b P w i + (if pi_s P w i < 4 ∧ ep_pt P w (i + 1) = true then 1 else 0) := rfl
    have ec : pi_c P w (i + 1) = pi_c P w i + (if pi_s P w i < 4 then 1 else 0) := rfl
    rw [← nI_1] at IH
    -- a good sign: both sides go on
    have good : (pi_s P w i ≠ 0) → (∀ post : Int32 → Prop, wX_isPicture_10 post P (nI w) (d + 1) (nI (pi_c P w (i + 1))) (rd_b (ep_pt P w (i + 1))) (rd_b (!(ep_fx P w (i + 1) || ep_pt P w (i + 1)))) (nI i + 1) → wX_isPicture_10 post P (nI w) (d + 1 + 1) (nI (pi_c P w i)) (rd_b (ep_pt P w i)) (rd_b (!(ep_fx P w i || ep_pt P w i))) (nI i)) →
        (∀ post : Int32 → SY → Prop, wY_edited_52 post v1 v2 P v4 (nI w) cn fp ck pf hr sp ix sc ye sz yj st kd pl ln dc tm sn sd op ox oy oz sh ch oth lw hg le bk fm vy (d + 1) (nI (ep_b P w (i + 1))) (nI (pi_c P w (i + 1))) (rd_b (ep_pt P w (i + 1))) (rd_b (ep_fx P w (i + 1))) (nI i + 1) → wY_edited_52 post v1 v2 P v4 (nI w) cn fp ck pf hr sp ix sc ye sz yj st kd pl ln dc tm sn sd op ox oy oz sh ch oth lw hg le bk fm vy (d + 1 + 1) (nI (ep_b P w i)) (nI (pi_c P w i)) (rd_b (ep_pt P w i)) (rd_b (ep_fx P w i)) (nI i)) →
        (((∀ post : Int32 → Prop, post 0 → wX_isPicture_10 post P (nI w) (d + 1 + 1) (nI (pi_c P w i)) (rd_b (ep_pt P w i)) (rd_b (!(ep_fx P w i || ep_pt P w i))) (nI i)) ∧ (∀ post : Int32 → SY → Prop, post 0 (cn, fp, ck, pf, hr, sp, ix, sc, ye, sz, yj, st, kd, pl, ln, dc, tm, sn, sd, op, ox, oy, oz, sh, ch, oth, lw, hg, le, bk, fm, vy) → wY_edited_52 post v1 v2 P v4 (nI w) cn fp ck pf hr sp ix sc ye sz yj st kd pl ln dc tm sn sd op ox oy oz sh ch oth lw hg le bk fm vy (d + 1 + 1) (nI (ep_b P w i)) (nI (pi_c P w i)) (rd_b (ep_pt P w i)) (rd_b (ep_fx P w i)) (nI i))) ∨
        ((∀ k, i ≤ k → k < w → pi_s P w k ≠ 0) ∧ (∀ post : Int32 → Prop, ((nI (pi_c P w w) ≤ 0 → post 0) ∧ (¬ nI (pi_c P w w) ≤ 0 → post 1)) → wX_isPicture_10 post P (nI w) (d + 1 + 1) (nI (pi_c P w i)) (rd_b (ep_pt P w i)) (rd_b (!(ep_fx P w i || ep_pt P w i))) (nI i)) ∧
          (∀ post : Int32 → SY → Prop, wY_edited_52 post v1 v2 P v4 (nI w) cn fp ck pf hr sp ix sc ye sz yj st kd pl ln dc tm sn sd op ox oy oz sh ch oth lw hg le bk fm vy 1 (nI (ep_b P w w)) (nI (pi_c P w w)) (rd_b (ep_pt P w w)) (rd_b (ep_fx P w w)) (nI w) → wY_edited_52 post v1 v2 P v4 (nI w) cn fp ck pf hr sp ix sc ye sz yj st kd pl ln dc tm sn sd op ox oy oz sh ch oth lw hg le bk fm vy (d + 1 + 1) (nI (ep_b P w i)) (nI (pi_c P w i)) (rd_b (ep_pt P w i)) (rd_b (ep_fx P w i)) (nI i)))) := by
      intro h0 hX hY
      rcases IH with ⟨iX, iY⟩ | ⟨iz, iX, iY⟩
      · exact Or.inl ⟨fun post hp => hX post (iX post hp), fun post hp => hY post (iY post hp)⟩
      · refine Or.inr ⟨fun k h1 h2 => ?_, fun post hp => hX post (iX post hp), fun post hp => hY post (iY post hp)⟩
        by_cases e : k = i
        · subst e
          exact h0
        · exact iz k (by omega) h2
    clear IH
    rcases (show σ = 0 ∨ σ = 1 ∨ σ = 2 ∨ σ = 3 ∨ σ = 4 ∨ σ = 5 ∨ σ = 6 ∨ σ = 7 by omega) with e | e | e | e | e | e | e | e <;> subst e <;> rcases (Bool.eq_false_or_eq_true (ep_pt P w i)).symm with hA | hA <;> rcases (Bool.eq_false_or_eq_true (ep_fx P w i)).symm with hF | hF <;> rw [hσ] at ept efx eb ec <;> rw [hA] at ept <;> rw [hF] at efx <;> rw [ept] at eb
    · refine Or.inl ⟨fun post hp => br_f hge (xe_sign ?_), fun post hp => br_f hge (nm_r hσ ?_)⟩
      · rw [hσ, hA, hF]
        exact br_t rfl hp
      · rw [hA, hF]
        exact br_t rfl hp
    · refine Or.inl ⟨fun post hp => br_f hge (xe_sign ?_), fun post hp => br_f hge (nm_r hσ ?_)⟩
      · rw [hσ, hA, hF]
        exact br_t rfl hp
      · rw [hA, hF]
        exact br_t rfl hp
    · refine Or.inl ⟨fun post hp => br_f hge (xe_sign ?_), fun post hp => br_f hge (nm_r hσ ?_)⟩
      · rw [hσ, hA, hF]
        exact br_t rfl hp
      · rw [hA, hF]
        exact br_t rfl hp
    · refine Or.inl ⟨fun post hp => br_f hge (xe_sign ?_), fun post hp => br_f hge (nm_r hσ ?_)⟩
      · rw [hσ, hA, hF]
        exact br_t rfl hp
      · rw [hA, hF]
        exact br_t rfl hp
    · refine good (by rw [hσ]; decide) (fun post H => br_f hge (xe_sign ?_)) (fun post H => br_f hge (nm_r hσ ?_))
      · rw [ec, ept, efx] at H
        rw [hσ, hA, hF]
        exact br_f (by decide) (br_t (by decide) (br_f (by decide) (br_f (by decide) (br_f (by decide) (br_t rfl (br_f (by decide) (xe_isT (by decide) (by decide) (br_f (by decide) (nm_r (nI_1 _) (nm_e H))))))))))
      · rw [ec, ept, efx, eb] at H
        rw [hA, hF]
        exact br_f (by decide) (br_f (by decide) (br_t (by decide) (br_f (by decide) (br_f (by decide) (br_f (by decide) (nm_r (show rd_b false ||| 0 = rd_b false by decide) (br_t rfl (nm_r (show rd_b false ||| 1 = rd_b true by decide) (br_f (by decide) (nm_r (nI_1 _) (br_f (by decide) (br_t rfl (nm_e H)))))))))))))
    · refine good (by rw [hσ]; decide) (fun post H => br_f hge (xe_sign ?_)) (fun post H => br_f hge (nm_r hσ ?_))
      · rw [ec, ept, efx] at H
        rw [hσ, hA, hF]
        exact br_f (by decide) (br_t (by decide) (br_f (by decide) (br_f (by decide) (br_f (by decide) (br_t rfl (br_f (by decide) (xe_isT (by decide) (by decide) (br_f (by decide) (nm_r (nI_1 _) (nm_e H))))))))))
      · rw [ec, ept, efx, eb] at H
        rw [hA, hF]
        exact br_f (by decide) (br_f (by decide) (br_t (by decide) (br_f (by decide) (br_f (by decide) (br_f (by decide) (nm_r (show rd_b false ||| 0 = rd_b false by decide) (br_t rfl (nm_r (show rd_b true ||| 1 = rd_b true by decide) (br_f (by decide) (nm_r (nI_1 _) (br_f (by decide) (br_t rfl (nm_e H)))))))))))))
    · refine good (by rw [hσ]; decide) (fun post H => br_f hge (xe_sign ?_)) (fun post H => br_f hge (nm_r hσ ?_))
      · rw [ec, ept, efx] at H
        rw [hσ, hA, hF]
        exact br_f (by decide) (br_t (by decide) (br_f (by decide) (br_f (by decide) (br_f (by decide) (br_t rfl (br_f (by decide) (xe_isT (by decide) (by decide) (br_f (by decide) (nm_r (nI_1 _) (nm_e H))))))))))
      · rw [ec, ept, efx, eb] at H
        rw [hA, hF]
        exact br_f (by decide) (br_f (by decide) (br_t (by decide) (br_f (by decide) (br_f (by decide) (br_f (by decide) (nm_r (show rd_b true ||| 0 = rd_b true by decide) (br_t rfl (nm_r (show rd_b false ||| 1 = rd_b true by decide) (br_f (by decide) (nm_r (nI_1 _) (br_f (by decide) (br_f (by decide) (nm_r (nI_1 _) (nm_e H))))))))))))))
    · refine good (by rw [hσ]; decide) (fun post H => br_f hge (xe_sign ?_)) (fun post H => br_f hge (nm_r hσ ?_))
      · rw [ec, ept, efx] at H
        rw [hσ, hA, hF]
        exact br_f (by decide) (br_t (by decide) (br_f (by decide) (br_f (by decide) (br_f (by decide) (br_t rfl (br_f (by decide) (xe_isT (by decide) (by decide) (br_f (by decide) (nm_r (nI_1 _) (nm_e H))))))))))
      · rw [ec, ept, efx, eb] at H
        rw [hA, hF]
        exact br_f (by decide) (br_f (by decide) (br_t (by decide) (br_f (by decide) (br_f (by decide) (br_f (by decide) (nm_r (show rd_b true ||| 0 = rd_b true by decide) (br_t rfl (nm_r (show rd_b true ||| 1 = rd_b true by decide) (br_f (by decide) (nm_r (nI_1 _) (br_f (by decide) (br_f (by decide) (nm_r (nI_1 _) (nm_e H))))))))))))))
    · refine good (by rw [hσ]; decide) (fun post H => br_f hge (xe_sign ?_)) (fun post H => br_f hge (nm_r hσ ?_))
      · rw [ec, ept, efx] at H
        rw [hσ, hA, hF]
        exact br_f (by decide) (br_t (by decide) (br_f (by decide) (br_t rfl (br_f (by decide) (br_f (by decide) (br_f (by decide) (br_f (by decide) (xe_isT (by decide) (by decide) (br_f (by decide) (nm_r (nI_1 _) (nm_e H)))))))))))
      · rw [ec, ept, efx, eb] at H
        rw [hA, hF]
        exact br_f (by decide) (br_f (by decide) (br_t (by decide) (br_t rfl (br_t rfl (br_t rfl (br_f (by decide) (nm_r (show rd_b false ||| 0 = rd_b false by decide) (br_f (by decide) (nm_r (show rd_b false ||| 0 = rd_b false by decide) (br_f (by decide) (nm_r (nI_1 _) (br_f (by decide) (br_t rfl (nm_e H))))))))))))))
    · refine Or.inl ⟨fun post hp => br_f hge (xe_sign ?_), fun post hp => br_f hge (nm_r hσ ?_)⟩
      · rw [hσ, hA, hF]
        exact br_f (by decide) (br_t (by decide) (br_f (by decide) (br_t rfl (br_t rfl hp))))
      · rw [hA, hF]
        exact br_f (by decide) (br_f (by decide) (br_t (by decide) (br_t rfl (br_f (by decide) hp))))
    · refine Or.inl ⟨fun post hp => br_f hge (xe_sign ?_), fun post hp => br_f hge (nm_r hσ ?_)⟩
      · rw [hσ, hA, hF]
        exact br_f (by decide) (br_t (by decide) (br_f (by decide) (br_t rfl (br_t rfl hp))))
      · rw [hA, hF]
        exact br_f (by decide) (br_f (by decide) (br_t (by decide) (br_t rfl (br_t rfl (br_f (by decide) hp)))))
    · refine Or.inl ⟨fun post hp => br_f hge (xe_sign ?_), fun post hp => br_f hge (nm_r hσ ?_)⟩
      · rw [hσ, hA, hF]
        exact br_f (by decide) (br_t (by decide) (br_f (by decide) (br_t rfl (br_t rfl hp))))
      · rw [hA, hF]
        exact br_f (by decide) (br_f (by decide) (br_t (by decide) (br_t rfl (br_f (by decide) hp))))
    · refine good (by rw [hσ]; decide) (fun post H => br_f hge (xe_sign ?_)) (fun post H => br_f hge (nm_r hσ ?_))
      · rw [ec, ept, efx] at H
        rw [hσ, hA, hF]
        exact br_f (by decide) (br_t (by decide) (br_f (by decide) (br_f (by decide) (br_t rfl (br_f (by decide) (br_f (by decide) (br_f (by decide) (br_f (by decide) (xe_isT (by decide) (by decide) (br_f (by decide) (nm_r (nI_1 _) (nm_e H))))))))))))
      · rw [ec, ept, efx, eb] at H
        rw [hA, hF]
        exact br_f (by decide) (br_f (by decide) (br_t (by decide) (br_f (by decide) (br_t rfl (br_t rfl (br_t rfl (br_f (by decide) (nm_r (show rd_b false ||| 0 = rd_b false by decide) (br_f (by decide) (nm_r (show rd_b false ||| 0 = rd_b false by decide) (br_f (by decide) (nm_r (nI_1 _) (br_f (by decide) (br_t rfl (nm_e H)))))))))))))))
    · refine Or.inl ⟨fun post hp => br_f hge (xe_sign ?_), fun post hp => br_f hge (nm_r hσ ?_)⟩
      · rw [hσ, hA, hF]
        exact br_f (by decide) (br_t (by decide) (br_f (by decide) (br_f (by decide) (br_t rfl (br_t rfl hp)))))
      · rw [hA, hF]
        exact br_f (by decide) (br_f (by decide) (br_t (by decide) (br_f (by decide) (br_t rfl (br_f (by decide) hp)))))
    · refine Or.inl ⟨fun post hp => br_f hge (xe_sign ?_), fun post hp => br_f hge (nm_r hσ ?_)⟩
      · rw [hσ, hA, hF]
        exact br_f (by decide) (br_t (by decide) (br_f (by decide) (br_f (by decide) (br_t rfl (br_t rfl hp)))))
      · rw [hA, hF]
        exact br_f (by decide) (br_f (by decide) (br_t (by decide) (br_f (by decide) (br_t rfl (br_t rfl (br_f (by decide) hp))))))
    · refine Or.inl ⟨fun post hp => br_f hge (xe_sign ?_), fun post hp => br_f hge (nm_r hσ ?_)⟩
      · rw [hσ, hA, hF]
        exact br_f (by decide) (br_t (by decide) (br_f (by decide) (br_f (by decide) (br_t rfl (br_t rfl hp)))))
      · rw [hA, hF]
        exact br_f (by decide) (br_f (by decide) (br_t (by decide) (br_f (by decide) (br_t rfl (br_f (by decide) hp)))))
    · refine good (by rw [hσ]; decide) (fun post H => br_f hge (xe_sign ?_)) (fun post H => br_f hge (nm_r hσ ?_))
      · rw [ec, ept, efx] at H
        rw [hσ, hA, hF]
        exact br_f (by decide) (br_t (by decide) (br_f (by decide) (br_f (by decide) (br_f (by decide) (br_f (by decide) (br_f (by decide) (br_f (by decide) (xe_isF (by decide) (by decide) (br_t rfl (nm_e H))))))))))
      · rw [ec, ept, efx, eb] at H
        rw [hA, hF]
        exact br_f (by decide) (br_f (by decide) (br_t (by decide) (br_f (by decide) (br_f (by decide) (br_f (by decide) (nm_r (show rd_b false ||| 0 = rd_b false by decide) (br_f (by decide) (nm_r (show rd_b false ||| 0 = rd_b false by decide) (br_t (by decide) (br_t (by decide) (nm_e H)))))))))))
    · refine good (by rw [hσ]; decide) (fun post H => br_f hge (xe_sign ?_)) (fun post H => br_f hge (nm_r hσ ?_))
      · rw [ec, ept, efx] at H
        rw [hσ, hA, hF]
        exact br_f (by decide) (br_t (by decide) (br_f (by decide) (br_f (by decide) (br_f (by decide) (br_f (by decide) (br_f (by decide) (br_f (by decide) (xe_isF (by decide) (by decide) (br_t rfl (nm_e H))))))))))
      · rw [ec, ept, efx, eb] at H
        rw [hA, hF]
        exact br_f (by decide) (br_f (by decide) (br_t (by decide) (br_f (by decide) (br_f (by decide) (br_f (by decide) (nm_r (show rd_b false ||| 0 = rd_b false by decide) (br_f (by decide) (nm_r (show rd_b true ||| 0 = rd_b true by decide) (br_t (by decide) (br_t (by decide) (nm_e H)))))))))))
    · refine good (by rw [hσ]; decide) (fun post H => br_f hge (xe_sign ?_)) (fun post H => br_f hge (nm_r hσ ?_))
      · rw [ec, ept, efx] at H
        rw [hσ, hA, hF]
        exact br_f (by decide) (br_t (by decide) (br_f (by decide) (br_f (by decide) (br_f (by decide) (br_f (by decide) (br_f (by decide) (br_f (by decide) (xe_isF (by decide) (by decide) (br_t rfl (nm_e H))))))))))
      · rw [ec, ept, efx, eb] at H
        rw [hA, hF]
        exact br_f (by decide) (br_f (by decide) (br_t (by decide) (br_f (by decide) (br_f (by decide) (br_f (by decide) (nm_r (show rd_b true ||| 0 = rd_b true by decide) (br_f (by decide) (nm_r (show rd_b false ||| 0 = rd_b false by decide) (br_t (by decide) (br_t (by decide) (nm_e H)))))))))))
    · refine good (by rw [hσ]; decide) (fun post H => br_f hge (xe_sign ?_)) (fun post H => br_f hge (nm_r hσ ?_))
      · rw [ec, ept, efx] at H
        rw [hσ, hA, hF]
        exact br_f (by decide) (br_t (by decide) (br_f (by decide) (br_f (by decide) (br_f (by decide) (br_f (by decide) (br_f (by decide) (br_f (by decide) (xe_isF (by decide) (by decide) (br_t rfl (nm_e H))))))))))
      · rw [ec, ept, efx, eb] at H
        rw [hA, hF]
        exact br_f (by decide) (br_f (by decide) (br_t (by decide) (br_f (by decide) (br_f (by decide) (br_f (by decide) (nm_r (show rd_b true ||| 0 = rd_b true by decide) (br_f (by decide) (nm_r (show rd_b true ||| 0 = rd_b true by decide) (br_t (by decide) (br_t (by decide) (nm_e H)))))))))))
    · refine good (by rw [hσ]; decide) (fun post H => br_f hge (xe_sign ?_)) (fun post H => br_f hge (nm_r hσ ?_))
      · rw [ec, ept, efx] at H
        rw [hσ, hA, hF]
        exact br_f (by decide) (br_t (by decide) (br_t rfl (br_t rfl (br_f (by decide) (br_f (by decide) (br_f (by decide) (br_t rfl (br_t rfl (xe_isF (by decide) (by decide) (br_t rfl (nm_e H)))))))))))
      · rw [ec, ept, efx, eb] at H
        rw [hA, hF]
        exact br_f (by decide) (br_t rfl (br_t rfl (br_t (by decide) (br_f (by decide) (br_f (by decide) (br_t rfl (nm_r (show rd_b false ||| 1 = rd_b true by decide) (br_f (by decide) (nm_r (show rd_b false ||| 0 = rd_b false by decide) (br_t (by decide) (br_t (by decide) (nm_e H))))))))))))
    · refine good (by rw [hσ]; decide) (fun post H => br_f hge (xe_sign ?_)) (fun post H => br_f hge (nm_r hσ ?_))
      · rw [ec, ept, efx] at H
        rw [hσ, hA, hF]
        exact br_f (by decide) (br_t (by decide) (br_t rfl (br_t rfl (br_f (by decide) (br_f (by decide) (br_f (by decide) (br_t rfl (br_t rfl (xe_isF (by decide) (by decide) (br_t rfl (nm_e H)))))))))))
      · rw [ec, ept, efx, eb] at H
        rw [hA, hF]
        exact br_f (by decide) (br_t rfl (br_t rfl (br_t (by decide) (br_f (by decide) (br_f (by decide) (br_t rfl (nm_r (show rd_b false ||| 1 = rd_b true by decide) (br_f (by decide) (nm_r (show rd_b true ||| 0 = rd_b true by decide) (br_t (by decide) (br_t (by decide) (nm_e H))))))))))))
    · refine Or.inl ⟨fun post hp => br_f hge (xe_sign ?_), fun post hp => br_f hge (nm_r hσ ?_)⟩
      · rw [hσ, hA, hF]
        exact br_f (by decide) (br_t (by decide) (br_t rfl (br_f (by decide) hp)))
      · rw [hA, hF]
        exact br_f (by decide) (br_t rfl (br_f (by decide) hp))
    · refine Or.inl ⟨fun post hp => br_f hge (xe_sign ?_), fun post hp => br_f hge (nm_r hσ ?_)⟩
      · rw [hσ, hA, hF]
        exact br_f (by decide) (br_t (by decide) (br_t rfl (br_f (by decide) hp)))
      · rw [hA, hF]
        exact br_f (by decide) (br_t rfl (br_f (by decide) hp))
    · by_cases hz : i = 0
      · have hi0 : ¬ 0 < nI i := by rw [hz]; decide
        refine good (by rw [hσ]; decide) (fun post H => br_f hge (xe_sign ?_)) (fun post H => br_f hge (nm_r hσ ?_))
        · rw [ec, ept, efx] at H
          rw [hσ, hA, hF]
          exact br_f (by decide) (br_f (by decide) (br_f hi0 (br_f (by decide) (br_f (by decide) (br_f (by decide) (br_f (by decide) (br_f (by decide) (br_f (by decide) (xe_isF (by decide) (by decide) (br_t rfl (nm_e H)))))))))))
        · rw [ec, ept, efx, eb] at H
          rw [hA, hF]
          exact br_f (by decide) (br_f (by decide) (br_f (by decide) (br_f hi0 (br_f (by decide) (br_f (by decide) (br_f (by decide) (nm_r (show rd_b false ||| 0 = rd_b false by decide) (br_f (by decide) (nm_r (show rd_b false ||| 0 = rd_b false by decide) (br_t (by decide) (br_t (by decide) (nm_e H))))))))))))
      · have hi1 : 0 < nI i := nI_lt (a := 0) (by omega) (by omega)
        refine Or.inl ⟨fun post hp => br_f hge (xe_sign ?_), fun post hp => br_f hge (nm_r hσ ?_)⟩
        · rw [hσ, hA, hF]
          exact br_f (by decide) (br_f (by decide) (br_t hi1 hp))
        · rw [hA, hF]
          exact br_f (by decide) (br_f (by decide) (br_f (by decide) (br_t hi1 hp)))
    · by_cases hz : i = 0
      · have hi0 : ¬ 0 < nI i := by rw [hz]; decide
        refine good (by rw [hσ]; decide) (fun post H => br_f hge (xe_sign ?_)) (fun post H => br_f hge (nm_r hσ ?_))
        · rw [ec, ept, efx] at H
          rw [hσ, hA, hF]
          exact br_f (by decide) (br_f (by decide) (br_f hi0 (br_f (by decide) (br_f (by decide) (br_f (by decide) (br_f (by decide) (br_f (by decide) (br_f (by decide) (xe_isF (by decide) (by decide) (br_t rfl (nm_e H)))))))))))
        · rw [ec, ept, efx, eb] at H
          rw [hA, hF]
          exact br_f (by decide) (br_f (by decide) (br_f (by decide) (br_f hi0 (br_f (by decide) (br_f (by decide) (br_f (by decide) (nm_r (show rd_b false ||| 0 = rd_b false by decide) (br_f (by decide) (nm_r (show rd_b true ||| 0 = rd_b true by decide) (br_t (by decide) (br_t (by decide) (nm_e H))))))))))))
      · have hi1 : 0 < nI i := nI_lt (a := 0) (by omega) (by omega)
        refine Or.inl ⟨fun post hp => br_f hge (xe_sign ?_), fun post hp => br_f hge (nm_r hσ ?_)⟩
        · rw [hσ, hA, hF]
          exact br_f (by decide) (br_f (by decide) (br_t hi1 hp))
        · rw [hA, hF]
          exact br_f (by decide) (br_f (by decide) (br_f (by decide) (br_t hi1 hp)))
    · by_cases hz : i = 0
      · have hi0 : ¬ 0 < nI i := by rw [hz]; decide
        refine good (by rw [hσ]; decide) (fun post H => br_f hge (xe_sign ?_)) (fun post H => br_f hge (nm_r hσ ?_))
        · rw [ec, ept, efx] at H
          rw [hσ, hA, hF]
          exact br_f (by decide) (br_f (by decide) (br_f hi0 (br_f (by decide) (br_f (by decide) (br_f (by decide) (br_f (by decide) (br_f (by decide) (br_f (by decide) (xe_isF (by decide) (by decide) (br_t rfl (nm_e H)))))))))))
        · rw [ec, ept, efx, eb] at H
          rw [hA, hF]
          exact br_f (by decide) (br_f (by decide) (br_f (by decide) (br_f hi0 (br_f (by decide) (br_f (by decide) (br_f (by decide) (nm_r (show rd_b true ||| 0 = rd_b true by decide) (br_f (by decide) (nm_r (show rd_b false ||| 0 = rd_b false by decide) (br_t (by decide) (br_t (by decide) (nm_e H))))))))))))
      · have hi1 : 0 < nI i := nI_lt (a := 0) (by omega) (by omega)
        refine Or.inl ⟨fun post hp => br_f hge (xe_sign ?_), fun post hp => br_f hge (nm_r hσ ?_)⟩
        · rw [hσ, hA, hF]
          exact br_f (by decide) (br_f (by decide) (br_t hi1 hp))
        · rw [hA, hF]
          exact br_f (by decide) (br_f (by decide) (br_f (by decide) (br_t hi1 hp)))
    · by_cases hz : i = 0
      · have hi0 : ¬ 0 < nI i := by rw [hz]; decide
        refine good (by rw [hσ]; decide) (fun post H => br_f hge (xe_sign ?_)) (fun post H => br_f hge (nm_r hσ ?_))
        · rw [ec, ept, efx] at H
          rw [hσ, hA, hF]
          exact br_f (by decide) (br_f (by decide) (br_f hi0 (br_f (by decide) (br_f (by decide) (br_f (by decide) (br_f (by decide) (br_f (by decide) (br_f (by decide) (xe_isF (by decide) (by decide) (br_t rfl (nm_e H)))))))))))
        · rw [ec, ept, efx, eb] at H
          rw [hA, hF]
          exact br_f (by decide) (br_f (by decide) (br_f (by decide) (br_f hi0 (br_f (by decide) (br_f (by decide) (br_f (by decide) (nm_r (show rd_b true ||| 0 = rd_b true by decide) (br_f (by decide) (nm_r (show rd_b true ||| 0 = rd_b true by decide) (br_t (by decide) (br_t (by decide) (nm_e H))))))))))))
      · have hi1 : 0 < nI i := nI_lt (a := 0) (by omega) (by omega)
        refine Or.inl ⟨fun post hp => br_f hge (xe_sign ?_), fun post hp => br_f hge (nm_r hσ ?_)⟩
        · rw [hσ, hA, hF]
          exact br_f (by decide) (br_f (by decide) (br_t hi1 hp))
        · rw [hA, hF]
          exact br_f (by decide) (br_f (by decide) (br_f (by decide) (br_t hi1 hp)))
    · by_cases hz : i = 0
      · have hi0 : ¬ 0 < nI i := by rw [hz]; decide
        refine good (by rw [hσ]; decide) (fun post H => br_f hge (xe_sign ?_)) (fun post H => br_f hge (nm_r hσ ?_))
        · rw [ec, ept, efx] at H
          rw [hσ, hA, hF]
          exact br_f (by decide) (br_f (by decide) (br_f hi0 (br_f (by decide) (br_f (by decide) (br_f (by decide) (br_f (by decide) (br_f (by decide) (br_f (by decide) (xe_isF (by decide) (by decide) (br_t rfl (nm_e H)))))))))))
        · rw [ec, ept, efx, eb] at H
          rw [hA, hF]
          exact br_f (by decide) (br_f (by decide) (br_f (by decide) (br_f hi0 (br_f (by decide) (br_f (by decide) (br_f (by decide) (nm_r (show rd_b false ||| 0 = rd_b false by decide) (br_f (by decide) (nm_r (show rd_b false ||| 0 = rd_b false by decide) (br_t (by decide) (br_t (by decide) (nm_e H))))))))))))
      · have hi1 : 0 < nI i := nI_lt (a := 0) (by omega) (by omega)
        refine Or.inl ⟨fun post hp => br_f hge (xe_sign ?_), fun post hp => br_f hge (nm_r hσ ?_)⟩
        · rw [hσ, hA, hF]
          exact br_f (by decide) (br_f (by decide) (br_t hi1 hp))
        · rw [hA, hF]
          exact br_f (by decide) (br_f (by decide) (br_f (by decide) (br_t hi1 hp)))
    · by_cases hz : i = 0
      · have hi0 : ¬ 0 < nI i := by rw [hz]; decide
        refine good (by rw [hσ]; decide) (fun post H => br_f hge (xe_sign ?_)) (fun post H => br_f hge (nm_r hσ ?_))
        · rw [ec, ept, efx] at H
          rw [hσ, hA, hF]
          exact br_f (by decide) (br_f (by decide) (br_f hi0 (br_f (by decide) (br_f (by decide) (br_f (by decide) (br_f (by decide) (br_f (by decide) (br_f (by decide) (xe_isF (by decide) (by decide) (br_t rfl (nm_e H)))))))))))
        · rw [ec, ept, efx, eb] at H
          rw [hA, hF]
          exact br_f (by decide) (br_f (by decide) (br_f (by decide) (br_f hi0 (br_f (by decide) (br_f (by decide) (br_f (by decide) (nm_r (show rd_b false ||| 0 = rd_b false by decide) (br_f (by decide) (nm_r (show rd_b true ||| 0 = rd_b true by decide) (br_t (by decide) (br_t (by decide) (nm_e H))))))))))))
      · have hi1 : 0 < nI i := nI_lt (a := 0) (by omega) (by omega)
        refine Or.inl ⟨fun post hp => br_f hge (xe_sign ?_), fun post hp => br_f hge (nm_r hσ ?_)⟩
        · rw [hσ, hA, hF]
          exact br_f (by decide) (br_f (by decide) (br_t hi1 hp))
        · rw [hA, hF]
          exact br_f (by decide) (br_f (by decide) (br_f (by decide) (br_t hi1 hp)))
    · by_cases hz : i = 0
      · have hi0 : ¬ 0 < nI i := by rw [hz]; decide
        refine good (by rw [hσ]; decide) (fun post H => br_f hge (xe_sign ?_)) (fun post H => br_f hge (nm_r hσ ?_))
        · rw [ec, ept, efx] at H
          rw [hσ, hA, hF]
          exact br_f (by decide) (br_f (by decide) (br_f hi0 (br_f (by decide) (br_f (by decide) (br_f (by decide) (br_f (by decide) (br_f (by decide) (br_f (by decide) (xe_isF (by decide) (by decide) (br_t rfl (nm_e H)))))))))))
        · rw [ec, ept, efx, eb] at H
          rw [hA, hF]
          exact br_f (by decide) (br_f (by decide) (br_f (by decide) (br_f hi0 (br_f (by decide) (br_f (by decide) (br_f (by decide) (nm_r (show rd_b true ||| 0 = rd_b true by decide) (br_f (by decide) (nm_r (show rd_b false ||| 0 = rd_b false by decide) (br_t (by decide) (br_t (by decide) (nm_e H))))))))))))
      · have hi1 : 0 < nI i := nI_lt (a := 0) (by omega) (by omega)
        refine Or.inl ⟨fun post hp => br_f hge (xe_sign ?_), fun post hp => br_f hge (nm_r hσ ?_)⟩
        · rw [hσ, hA, hF]
          exact br_f (by decide) (br_f (by decide) (br_t hi1 hp))
        · rw [hA, hF]
          exact br_f (by decide) (br_f (by decide) (br_f (by decide) (br_t hi1 hp)))
    · by_cases hz : i = 0
      · have hi0 : ¬ 0 < nI i := by rw [hz]; decide
        refine good (by rw [hσ]; decide) (fun post H => br_f hge (xe_sign ?_)) (fun post H => br_f hge (nm_r hσ ?_))
        · rw [ec, ept, efx] at H
          rw [hσ, hA, hF]
          exact br_f (by decide) (br_f (by decide) (br_f hi0 (br_f (by decide) (br_f (by decide) (br_f (by decide) (br_f (by decide) (br_f (by decide) (br_f (by decide) (xe_isF (by decide) (by decide) (br_t rfl (nm_e H)))))))))))
        · rw [ec, ept, efx, eb] at H
          rw [hA, hF]
          exact br_f (by decide) (br_f (by decide) (br_f (by decide) (br_f hi0 (br_f (by decide) (br_f (by decide) (br_f (by decide) (nm_r (show rd_b true ||| 0 = rd_b true by decide) (br_f (by decide) (nm_r (show rd_b true ||| 0 = rd_b true by decide) (br_t (by decide) (br_t (by decide) (nm_e H))))))))))))
      · have hi1 : 0 < nI i := nI_lt (a := 0) (by omega) (by omega)
        refine Or.inl ⟨fun post hp => br_f hge (xe_sign ?_), fun post hp => br_f hge (nm_r hσ ?_)⟩
        · rw [hσ, hA, hF]
          exact br_f (by decide) (br_f (by decide) (br_t hi1 hp))
        · rw [hA, hF]
          exact br_f (by decide) (br_f (by decide) (br_f (by decide) (br_t hi1 hp)))
end
section
variable {cn ck fp pg ob hr sp ix sz pf sc ye yj : Int32}
variable {st kd pl wd tm dg dc ss pc op ox oy oz ps jp oi pa pt sh lc rc dr ln sn sd ch oth lw hg le bk fm vy : Nat → Int32}
variable {v1 v2 v4 P : Int32} {w m j : Nat}
theorem yw_cntL {post : Int32 → SY → Prop} (hm : m < 2 ^ 31) (hw8 : w ≤ 8) (hw : m / 8 ^ w = 0) (hi : ∀ i, i < w → ¬ m / 8 ^ i = 0) (h : ∃ n52, wY_edited_52 post v1 v2 P v4 (nI w) cn fp ck pf hr sp ix sc ye sz yj st kd pl ln dc tm sn sd op ox oy oz sh ch oth lw hg le bk fm vy n52 0 0 0 0 0) : ∀ (d i : Nat) (x5 x6 : Int32), i + d = w → x5 = nI i → x6 = nI (m / 8 ^ i) → wY_edited_31 post v1 v2 P v4 0 0 0 0 cn fp ck pf hr sp ix sc ye sz yj st kd pl ln dc tm sn sd op ox oy oz sh ch oth lw hg le bk fm vy (d + 1) x5 x6
  | 0, i, x5, x6, hd, h5, h6 => by
    subst h5 h6
    have e1 : i = w := by omega
    subst e1
    rw [hw]
    exact br_t (by decide) h
  | d + 1, i, x5, x6, hd, h5, h6 => by
    subst h5 h6
    have hq : m / 8 ^ i ≤ m := Nat.div_le_self _ _
    have hp := hi i (by omega)
    refine br_f ?_ ⟨by decide, nm_e (nm_e (yw_cntL hm hw8 hw hi h d (i + 1) _ _ (by omega) (nI_1 i) ?_))⟩
    · generalize m / 8 ^ i = q at *
      exact nI_nle (by omega) (by omega)
    · rw [ew_d (by omega), ew_n]
theorem yw_sgL {post : Int32 → SY → Prop} (hj : j < 12) (hw : w ≤ 8) (h : post 1 (cn, fp, ck, pf, hr, sp, ix, sc, ye, sz, yj, st, kd, pl, ln, dc, tm, sg_put sn (8 * j) 0 w (pi_s P w), sd, op, ox, oy, oz, sh, ch, oth, lw, hg, le, bk, fm, vy)) : ∀ (d i : Nat) (x11 : Int32) (q : Nat → Int32), i + d = w → x11 = nI i → q = sg_put sn (8 * j) 0 i (pi_s P w) → wY_edited_223 post (nI j) P (nI w) cn fp ck pf hr sp ix sc ye sz yj (d + 1) x11 st kd pl ln dc tm q sd op ox oy oz sh ch oth lw hg le bk fm vy
  | 0, i, x11, q, hd, h1, hq => by
    subst h1 hq
    have e1 : i = w := by omega
    subst e1
    exact br_t (nI_le (Nat.le_refl _) (by omega)) h
  | d + 1, i, x11, q, hd, h1, hq => by
    subst h1 hq
    refine br_f (nI_ge (by omega) (by omega)) ?_
    rw [ed_ix, nI_clamp (show 8 * j + i < 2 ^ 31 by omega)]
    exact ⟨vp_in_nI (by omega) (by decide), nm_r (sg_up sn (8 * j) 0 i (pi_s P w) (by omega)) (nm_e (yw_sgL hj hw h d (i + 1) _ _ (by omega) (nI_1 i) rfl))⟩
end
theorem iv_edited {u : SX} {v : SY} (I : iv_R u v) (v1 v2 v3 v4 : Int32) : wpX_edited (fun r u' => wpY_edited (fun r' v' => r' = r ∧ iv_R u' v') v v1 v2 v3 v4) u v1 v2 v3 v4 := by
  have I0 := I
  obtain ⟨cn, ck, fp, pg, ob, hr, sp, ix, sz, pf, sc, st, kd, pl, wd, tm, dg, dc, ss, pc, op, ox, oy, oz, ps, jp, oi, pa, pt, sh, lc, rc, dr⟩ := u
  obtain ⟨cn', fp', ck', pf', hr', sp', ix', sc', ye, sz', yj, st', kd', pl', ln, dc', tm', sn, sd, op', ox', oy', oz', sh', ch, oth, lw, hg, le, bk, fm, vy⟩ := v
  obtain ⟨⟨rfl, rfl, rfl, rfl, rfl, rfl, rfl, rfl, rfl, rfl, rfl, rfl, rfl, rfl, rfl, rfl, rfl⟩, ok, hA, ⟨n, hn, rfl, ho, hP⟩, hck, hsz⟩ := I
  unfold wpX_edited
  by_cases hv : ∃ m, 1 ≤ m ∧ m ≤ 16777215 ∧ v3 = nI m
  · obtain ⟨m, hm1, hm2, rfl⟩ := hv
    obtain ⟨w, hw1, hw8, hw0, hwi⟩ := ew_ex (m := m) (by omega) (by omega)
    have y1 : ¬ nI m < 1 := nI_nlt (b := 1) hm1 (by omega)
    have y2 : nI m ≤ 16777215 := nI_le (b := 16777215) hm2 (by decide)
    have hww : nI w ≤ nI w := nI_le (Nat.le_refl _) (by omega)
    refine ⟨w + 1, xw_cntL (by omega) hw8 hw0 hwi ?_ w 0 _ _ _ (by omega) (by rw [Nat.pow_zero, Nat.div_one]) rfl rfl⟩
    -- the reference up to its picture loop
    have yp : ∀ post : Int32 → SY → Prop, (∃ n52, wY_edited_52 post v1 v2 (nI m) v4 (nI w) (nI n) fp' ck' pf' hr' sp' ix' sc' ye sz' yj st' kd' pl' ln dc' tm' sn sd op' ox' oy' oz' sh' ch oth lw hg le bk fm vy n52 0 0 0 0 0) → wpY_edited post (nI n, fp', ck', pf', hr', sp', ix', sc', ye, sz', yj, st', kd', pl', ln, dc', tm', sn, sd, op', ox', oy', oz', sh', ch, oth, lw, hg, le, bk, fm, vy) v1 v2 (nI m) v4 := fun post h =>
      br_f y1 (br_t y2 ⟨w + 1, yw_cntL (by omega) hw8 hw0 hwi h w 0 _ _ (by omega) rfl (by rw [Nat.pow_zero, Nat.div_one])⟩)
    rcases el_L (cn := nI n) (fp := fp') (ck := ck') (pf := pf') (hr := hr') (sp := sp') (ix := ix') (sc := sc') (ye := ye) (sz := sz') (yj := yj) (st := st') (kd := kd') (pl := pl') (ln := ln) (dc := dc') (tm := tm') (sn := sn) (sd := sd) (op := op') (ox := ox') (oy := oy') (oz := oz') (sh := sh') (ch := ch) (oth := oth) (lw := lw) (hg := hg) (le := le) (bk := bk) (fm := fm) (vy := vy) (v1 := v1) (v2 := v2) (v4 := v4) (P := nI m) hw8 w 0 (by omega) with ⟨eX, eY⟩ | ⟨hz, eX, eY⟩
    · exact ⟨w + 1, eX _ (br_t rfl (yp _ ⟨w + 1, eY _ ⟨rfl, I0⟩⟩))⟩
    · refine ⟨w + 1, eX _ ?_⟩
      have hcl := pi_le (nI m) w w
      have hbl := ep_le (nI m) w w
      by_cases hD : pi_c (nI m) w w = 0
      · refine br_t (by rw [hD]; decide) (br_t rfl (yp _ ⟨w + 1, eY _ (br_t hww (br_t (by rw [hD]; rfl) ⟨rfl, I0⟩))⟩))
      · have hD0 : ¬ nI (pi_c (nI m) w w) = 0 := nI_ne0 (by omega) (by omega)
        refine br_f (nI_nle (by omega) (by omega)) (br_f (by decide) (xn_lie (by omega) (fun j a T C => br_f (by decide) ?_) (fun C => br_t rfl ?_)))
        · have C0 := C
          obtain ⟨rfl, hj, rfl, rfl, hT1, hT2, hl⟩ := C
          have v12 : vp_in (nI j) 12 := vp_in_nI hj (by decide)
          have cj : (nI j).toNatClampNeg = j := nI_clamp (by omega)
          refine xn_lay hj ⟨v12, ?_⟩
          rw [cj]
          refine nm_r pk_uu (br_t rfl ⟨w + 1, xp_L (g := fun _ => true) (q := pi_c (nI m) w) hw8 (fun i hi => hz i (by omega) hi) (fun i => rfl) (fun i h4 _ => pi_cs h4) (fun i h4 => pi_cn (fun z => h4 ⟨z, rfl⟩)) ?_ w 0 _ _ _ (by omega) rfl rfl rfl⟩)
          refine ⟨v12, nm_r pk_uu (br_f (by decide) ⟨w + 1, xp_L (g := ep_pt (nI m) w) (q := ep_b (nI m) w) hw8 (fun i hi => hz i (by omega) hi) (fun i => rfl) (fun i h4 hg => ?_) (fun i h4 => ?_) ?_ w 0 _ _ _ (by omega) rfl rfl rfl⟩)⟩
          · show ep_b (nI m) w i + (if pi_s (nI m) w i < 4 ∧ ep_pt (nI m) w (i + 1) = true then 1 else 0) = _
            rw [if_pos ⟨h4, hg⟩]
          · show ep_b (nI m) w i + (if pi_s (nI m) w i < 4 ∧ ep_pt (nI m) w (i + 1) = true then 1 else 0) = _
            rw [if_neg h4, Nat.add_zero]
          · refine ⟨v12, nm_r pk_uu (yp _ ⟨w + 1, eY _ (br_t hww (br_f hD0 ?_))⟩)⟩
            refine yn_lie (by omega) (fun j' a' T' C' => br_f (by decide) ?_) (fun h => absurd ⟨j, a, T, C0⟩ h)
            obtain ⟨b1, b2, b3, b4, b5, b6, b7⟩ := C'
            rw [nI_eq (by omega) (by omega)] at b1
            subst b1
            refine yn_make hj ⟨w + 1, yw_sgL hj hw8 ?_ w 0 _ _ (by omega) rfl (sg_0 _ _ _ _).symm⟩
            refine ⟨rfl, ⟨rfl, rfl, rfl, rfl, rfl, rfl, rfl, rfl, rfl, rfl, rfl, rfl, rfl, rfl, rfl, rfl, rfl⟩, ok, it_set hA (j := j) (fun i hi => ⟨⟨pk_un hi, pk_un hi, pk_un hi, pk_un hi, pk_un hi, pk_un hi, pk_un hi, pk_un hi, pk_un hi, rfl⟩, fun k hk => if_neg (by omega)⟩) ⟨3, a, w, T, pi_c (nI m) w w, ep_b (nI m) w w, 0, w, ⟨pk_us, pk_us, pk_us, pk_us, pk_us, pk_us, pk_us, pk_us⟩, ⟨by omega, by omega, hT1, hT2, hw1, by omega, by omega, hl, by omega, by omega, by omega⟩, fun h => absurd h (by decide), fun _ => rfl, fun _ => ⟨hw8, ?_, by omega, fun k hk => ?_⟩⟩, ⟨n, hn, rfl, ho, fun h => absurd h (by decide)⟩, Or.inl rfl, hsz⟩
            · rw [pk_us]
            · rw [pk_us, sg_in _ _ _ _ _ (Nat.zero_le _) hk]
              exact ⟨rfl, hz k (by omega) hk⟩
        · exact yp _ ⟨w + 1, eY _ (br_t hww (br_f hD0 (yn_lie (by omega) (fun j' a' T' C' => absurd ⟨j', a', T', C'⟩ C) (fun _ => br_t rfl ⟨rfl, I0⟩))))⟩
  · have hno : ¬ (¬ v3 < 1 ∧ ¬ 16777215 < v3) := fun h => hv ((gn_in (lo := 1) (hi := 16777215) (by decide) (by decide)).mpr h)
    have hy : wpY_edited (fun r' v' => r' = 0 ∧ iv_R (nI n, ck', fp', pg, ob, hr, sp', ix', sz', pf, sc', st', kd', pl', wd, tm', dg, dc', ss, pc, op', ox', oy', oz', ps, jp, oi, pa, pt, sh', lc, rc, dr) v') (nI n, fp', ck', pf', hr', sp', ix', sc', ye, sz', yj, st', kd', pl', ln, dc', tm', sn, sd, op', ox', oy', oz', sh', ch, oth, lw, hg, le, bk, fm, vy) v1 v2 v3 v4 := by
      refine br_c (fun _ => ⟨rfl, I0⟩) (fun a => br_f (fun b => hno ⟨a, Int32.not_lt.mpr b⟩) ⟨rfl, I0⟩)
    by_cases h0 : v3 ≤ 0
    · refine ⟨1, br_f (by decide) (br_t h0 ?_)⟩
      exact br_c (fun _ => ⟨1, br_t (by decide) (br_t (by decide) (br_t rfl hy))⟩) (fun _ => ⟨1, br_t (by decide) (br_t (by decide) (br_t rfl hy))⟩)
    · have hn0 : ¬ v3 < 0 := fun z => h0 (Int32.le_of_lt z)
      obtain ⟨m, hm, rfl⟩ := nI_of hn0
      have hm0 : m ≠ 0 := fun z => h0 (by subst z; decide)
      have hbig : 16777216 ≤ m := by
        refine Nat.le_of_not_lt fun z => hv ⟨m, by omega, by omega, rfl⟩
      refine ⟨9, xw_cntB hm (fun i hi => ?_) ?_ 8 0 _ _ _ (by omega) (by rw [Nat.pow_zero, Nat.div_one]) rfl⟩
      · have h8 : 8 ^ i ≤ 8 ^ 8 := Nat.pow_le_pow_right (by decide) hi
        rw [show 8 ^ 8 = 16777216 from by decide] at h8
        have := (Nat.div_pos (show 8 ^ i ≤ m by omega) (Nat.pow_pos (by decide)))
        omega
      · exact ⟨1, br_t (by decide) (br_t (by decide) (br_t rfl hy))⟩
