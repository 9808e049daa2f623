/-! check: the open IFs against depth and elses -/
theorem bi_1 : ∀ k, k < 32 → bt 1 k = decide (k = 0) := by decide
theorem bi_0 (y : Int32) : (y &&& 1) = 1 ↔ bt y 0 = true := by
  rw [pk_and y 1 (by decide)]
  have hm : y.toBitVec.toNat % 2 ^ 1 < 2 := Nat.mod_lt _ (by decide)
  show nI (y.toBitVec.toNat % 2 ^ 1) = nI 1 ↔ _
  rw [nI_eq (by omega) (by decide)]
  show _ ↔ Nat.testBit y.toBitVec.toNat 0 = true
  rw [Nat.testBit_zero, decide_eq_true_eq]
theorem bi_t (x : Int32) {t : Nat} (ht : t < 32) : ((x >>> (nI t &&& 31)) &&& 1) = 1 ↔ bt x t = true := by
  have h := b_sshr t ht x (i := 0) (by decide)
  rw [Nat.add_zero, if_pos ht] at h
  rw [bi_0, h]
theorem bi_sh {t s : Nat} (ht : t < 32) (hs : s < 32) : bt ((1 : Int32) <<< (nI t &&& 31)) s = decide (s = t) := by
  rw [b_shl t ht 1 hs]
  by_cases h : s = t
  · subst h
    rw [Nat.sub_self, bi_1 0 (by decide), decide_eq_true (Nat.le_refl _), decide_eq_true rfl, decide_eq_true rfl]
    rfl
  · rw [decide_eq_false h]
    by_cases h2 : t ≤ s
    · rw [bi_1 (s - t) (by omega), decide_eq_false (show ¬ s - t = 0 by omega), Bool.and_false]
    · rw [decide_eq_false h2, Bool.false_and]
theorem bi_clr (x : Int32) {t s : Nat} (ht : t < 32) (hs : s < 32) : bt (x &&& (((1 : Int32) <<< (nI t &&& 31)) ^^^ (-1))) s = (bt x s && !decide (s = t)) := by
  rw [b_and, b_xor, b_m1 s hs, bi_sh ht hs, Bool.xor_true]
theorem bi_set (x : Int32) {t s : Nat} (ht : t < 32) (hs : s < 32) : bt (x ||| ((1 : Int32) <<< (nI t &&& 31))) s = (bt x s || decide (s = t)) := by
  rw [b_or, bi_sh ht hs]
def ck_E (op oi : Nat → Int32) (x2 : Int32) (o : Nat) : Prop := ∀ t b, t < o → oi t = nI b → b < 48 → (bt x2 (t + 1) = true ↔ op b = 13)
theorem ck_Ei {op oi : Nat → Int32} {x2 : Int32} {o i : Nat} (ho : o < 8) (hi : i < 48) (h : ck_E op oi x2 o) (h1 : pw_i (op i)) : ck_E op (upd oi o (nI i)) (x2 &&& (((1 : Int32) <<< (nI (o + 1) &&& 31)) ^^^ (-1))) (o + 1) := by
  intro t b ht eb hb
  rw [bi_clr x2 (by omega) (by omega)]
  by_cases e : t = o
  · subst e
    rw [pk_us, nI_eq (by omega) (by omega)] at eb
    subst eb
    rw [decide_eq_true rfl, Bool.not_true, Bool.and_false]
    refine ⟨fun w => absurd w (by decide), fun w => ?_⟩
    rw [w] at h1
    exact absurd h1 (by unfold pw_i; decide)
  · rw [pk_un e] at eb
    rw [decide_eq_false (show ¬ t + 1 = o + 1 by omega), Bool.not_false, Bool.and_true]
    exact h t b (by omega) eb hb
theorem ck_Ee {op oi : Nat → Int32} {x2 : Int32} {o i : Nat} (ho : o < 8) (hi : i < 48) (h : ck_E op oi x2 (o + 1)) (h1 : op i = 13) : ck_E op (upd oi o (nI i)) (x2 ||| ((1 : Int32) <<< (nI (o + 1) &&& 31))) (o + 1) := by
  intro t b ht eb hb
  rw [bi_set x2 (by omega) (by omega)]
  by_cases e : t = o
  · subst e
    rw [pk_us, nI_eq (by omega) (by omega)] at eb
    subst eb
    rw [decide_eq_true rfl, Bool.or_true]
    exact ⟨fun _ => h1, fun _ => rfl⟩
  · rw [pk_un e] at eb
    rw [decide_eq_false (show ¬ t + 1 = o + 1 by omega), Bool.or_false]
    exact h t b (by omega) eb hb
section
variable {cn ck fp pg ob hr sp ix sz pf sc ye yj : Int32}
variable {st kd pl wd tm dg dc ss pc op ox oy oz ps jp oi pa pt sh lc rc dr ln sn sd ch oth lw hg le bk fm vy : Nat → Int32}
variable {n np : Nat} {pf2 hr2 : Int32}
theorem ck_loop (hA : it_A kd pl wd tm dg dc ss pc ln sn sd) (hn : n ≤ 48) (hops : ∀ j, j < n → ∃ o, o ≤ 22 ∧ op j = nI o) (enp : np = tb_z op n) : ∀ (d i o : Nat) (x2 : Int32) (oi jp : Nat → Int32), i + d = n → o ≤ 8 → ck_S op oi o i → ck_J op oi jp o i → ck_E op oi x2 o →
    ∃ (r ob' : Int32) (oi' jp' : Nat → Int32), ((r = -1 ∧ rl_J op jp' n ∧ ∀ k, i ≤ k → k < n → ∃ o, o ≤ 22 ∧ op k = nI o ∧ ft_G kd np o (ox k) (oy k) (oz k)) ∨ (∃ k, k ≤ 48 ∧ r = nI k)) ∧
      (∀ post, post r (nI n, ck, fp, nI np, ob', hr, sp, ix, sz, pf, sc, st, kd, pl, wd, tm, dg, dc, ss, pc, op, ox, oy, oz, ps, jp', oi', pa, pt, sh, lc, rc, dr) → wX_firstFault_29 post (d + 1) (nI i) (nI n) ck fp (nI np) (nI o) hr sp ix sz pf sc st kd pl wd tm dg dc ss pc op ox oy oz ps jp oi pa pt sh lc rc dr) ∧
      (∀ post, post r → wY_firstFault_24 post (nI n) fp ck pf2 hr2 sp ix sc ye sz yj st kd pl ln dc tm sn sd op ox oy oz sh ch oth lw hg le bk fm vy (d + 1) (nI o) x2 (nI i))
  | 0, i, o, x2, oi, jp, hd, ho, hS, hJ, hE => by
    have e1 : i = n := by omega
    subst e1
    by_cases h0 : o = 0
    · subst h0
      exact ⟨-1, nI 0, oi, jp, Or.inl ⟨rfl, ck_end hJ, fun k a b => absurd b (by omega)⟩, fun post hp => br_t (nI_le (Nat.le_refl _) (by omega)) (br_t (by decide) hp), fun post hp => br_t (nI_le (Nat.le_refl _) (by omega)) (br_t (by decide) hp)⟩
    · exact ⟨nI i, nI o, oi, jp, Or.inr ⟨i, hn, rfl⟩, fun post hp => br_t (nI_le (Nat.le_refl _) (by omega)) (br_f (nI_nle (by omega) (by omega)) hp), fun post hp => br_t (nI_le (Nat.le_refl _) (by omega)) (br_f (nI_nle (by omega) (by omega)) hp)⟩
  | d + 1, i, o, x2, oi, jp, hd, ho, hS, hJ, hE => by
    obtain ⟨oo, hoo, eo⟩ := hops i (by omega)
    have hnp : np < 2 ^ 31 := by have := tb_le op n; omega
    have v : vp_in (nI i) 48 := vp_in_nI (by omega) (by decide)
    have ci : (nI i).toNatClampNeg = i := nI_clamp (by omega)
    have eo' : op (nI i).toNatClampNeg = nI oo := by rw [ci, eo]
    have hge : ¬ nI n ≤ nI i := nI_ge (by omega) (by omega)
    by_cases hft : ft_G kd np oo (ox i) (oy i) (oz i)
    · -- both sides from behind the operands
      have XY : ∀ {r ob' : Int32} {oi' jp' : Nat → Int32}, ((r = -1 ∧ rl_J op jp' n ∧ ∀ k, i ≤ k → k < n → ∃ o, o ≤ 22 ∧ op k = nI o ∧ ft_G kd np o (ox k) (oy k) (oz k)) ∨ (∃ k, k ≤ 48 ∧ r = nI k)) →
          (∀ post : Int32 → SX → Prop, post r (nI n, ck, fp, nI np, ob', hr, sp, ix, sz, pf, sc, st, kd, pl, wd, tm, dg, dc, ss, pc, op, ox, oy, oz, ps, jp', oi', pa, pt, sh, lc, rc, dr) → wpX_nests (fun r_74 u => match u with | (cn, ck, fp, pg, ob, hr, sp, ix, sz, pf, sc, st, kd, pl, wd, tm, dg, dc, ss, pc, op, ox, oy, oz, ps, jp, oi, pa, pt, sh, lc, rc, dr) => ((r_74 = 0 → post (nI i) (cn, ck, fp, pg, ob, hr, sp, ix, sz, pf, sc, st, kd, pl, wd, tm, dg, dc, ss, pc, op, ox, oy, oz, ps, jp, oi, pa, pt, sh, lc, rc, dr)) ∧ (¬ r_74 = 0 → ∀ x1 : Int32, x1 = nI i + 1 → wX_firstFault_29 post (d + 1) x1 cn ck fp pg ob hr sp ix sz pf sc st kd pl wd tm dg dc ss pc op ox oy oz ps jp oi pa pt sh lc rc dr))) (nI n, ck, fp, nI np, nI o, hr, sp, ix, sz, pf, sc, st, kd, pl, wd, tm, dg, dc, ss, pc, op, ox, oy, oz, ps, jp, oi, pa, pt, sh, lc, rc, dr) (nI i)) →
          (∀ post : Int32 → Prop, post r → ((nI oo = 0 → ((0 < nI o → post (nI i)) ∧ (¬ 0 < nI o → wY_firstFault_57 post (wY_firstFault_24 post (nI n) fp ck pf2 hr2 sp ix sc ye sz yj st kd pl ln dc tm sn sd op ox oy oz sh ch oth lw hg le bk fm vy (d + 1)) (nI o) x2 (nI i) (nI oo) (nI n) fp ck pf2 hr2 sp ix sc ye sz yj st kd pl ln dc tm sn sd op ox oy oz sh ch oth lw hg le bk fm vy))) ∧ (¬ nI oo = 0 → wY_firstFault_57 post (wY_firstFault_24 post (nI n) fp ck pf2 hr2 sp ix sc ye sz yj st kd pl ln dc tm sn sd op ox oy oz sh ch oth lw hg le bk fm vy (d + 1)) (nI o) x2 (nI i) (nI oo) (nI n) fp ck pf2 hr2 sp ix sc ye sz yj st kd pl ln dc tm sn sd op ox oy oz sh ch oth lw hg le bk fm vy))) →
          ∃ (r ob' : Int32) (oi' jp' : Nat → Int32), ((r = -1 ∧ rl_J op jp' n ∧ ∀ k, i ≤ k → k < n → ∃ o, o ≤ 22 ∧ op k = nI o ∧ ft_G kd np o (ox k) (oy k) (oz k)) ∨ (∃ k, k ≤ 48 ∧ r = nI k)) ∧
            (∀ post, post r (nI n, ck, fp, nI np, ob', hr, sp, ix, sz, pf, sc, st, kd, pl, wd, tm, dg, dc, ss, pc, op, ox, oy, oz, ps, jp', oi', pa, pt, sh, lc, rc, dr) → wX_firstFault_29 post (d + 1 + 1) (nI i) (nI n) ck fp (nI np) (nI o) hr sp ix sz pf sc st kd pl wd tm dg dc ss pc op ox oy oz ps jp oi pa pt sh lc rc dr) ∧
            (∀ post, post r → wY_firstFault_24 post (nI n) fp ck pf2 hr2 sp ix sc ye sz yj st kd pl ln dc tm sn sd op ox oy oz sh ch oth lw hg le bk fm vy (d + 1 + 1) (nI o) x2 (nI i)) := by
        intro r ob' oi' jp' hr1 hX hY
        refine ⟨r, ob', oi', jp', hr1, fun post hp => br_f hge (xf_all (by omega) hoo hnp eo (fun _ => br_f (by decide) (hX post hp)) (fun w => absurd hft w)), fun post hp => br_f hge ⟨v, nm_r eo' (yf_all hA hn (by omega) hoo eo enp (fun _ => br_f (by decide) (hY post hp)) (fun w => absurd hft w))⟩⟩
      have keep : ∀ {r : Int32} {jp' : Nat → Int32}, ((r = -1 ∧ rl_J op jp' n ∧ ∀ k, i + 1 ≤ k → k < n → ∃ o, o ≤ 22 ∧ op k = nI o ∧ ft_G kd np o (ox k) (oy k) (oz k)) ∨ (∃ k, k ≤ 48 ∧ r = nI k)) → ((r = -1 ∧ rl_J op jp' n ∧ ∀ k, i ≤ k → k < n → ∃ o, o ≤ 22 ∧ op k = nI o ∧ ft_G kd np o (ox k) (oy k) (oz k)) ∨ (∃ k, k ≤ 48 ∧ r = nI k)) := by
        rintro r jp' (⟨a, b, c⟩ | z)
        · refine Or.inl ⟨a, b, fun k h1 h2 => ?_⟩
          by_cases e : k = i
          · subst e
            exact ⟨oo, hoo, eo, hft⟩
          · exact c k (by omega) h2
        · exact Or.inr z
      have fault : ∃ k, k ≤ 48 ∧ nI i = nI k := ⟨i, by omega, rfl⟩
      have IH : ∀ (o2 : Nat) (x2' : Int32) (oi2 jp2 : Nat → Int32), o2 ≤ 8 → ck_S op oi2 o2 (i + 1) → ck_J op oi2 jp2 o2 (i + 1) → ck_E op oi2 x2' o2 →
          ∃ (r ob' : Int32) (oi' jp' : Nat → Int32), ((r = -1 ∧ rl_J op jp' n ∧ ∀ k, i + 1 ≤ k → k < n → ∃ o, o ≤ 22 ∧ op k = nI o ∧ ft_G kd np o (ox k) (oy k) (oz k)) ∨ (∃ k, k ≤ 48 ∧ r = nI k)) ∧
            (∀ post, post r (nI n, ck, fp, nI np, ob', hr, sp, ix, sz, pf, sc, st, kd, pl, wd, tm, dg, dc, ss, pc, op, ox, oy, oz, ps, jp', oi', pa, pt, sh, lc, rc, dr) → wX_firstFault_29 post (d + 1) (nI (i + 1)) (nI n) ck fp (nI np) (nI o2) hr sp ix sz pf sc st kd pl wd tm dg dc ss pc op ox oy oz ps jp2 oi2 pa pt sh lc rc dr) ∧
            (∀ post, post r → wY_firstFault_24 post (nI n) fp ck pf2 hr2 sp ix sc ye sz yj st kd pl ln dc tm sn sd op ox oy oz sh ch oth lw hg le bk fm vy (d + 1) (nI o2) x2' (nI (i + 1))) := fun o2 x2' oi2 jp2 a b c e => ck_loop hA hn hops enp d (i + 1) o2 x2' oi2 jp2 (by omega) a b c e
      have ne : ∀ k : Nat, k ≤ 22 → oo ≠ k → ¬ nI oo = nI k := fun k hk h w => h ((nI_eq (by omega) (by omega)).mp w)
      have n1 : nI i + 1 = nI (i + 1) := nI_1 i
      by_cases c0 : oo = 0
      · subst c0
        have hnI : ¬ pw_i (op i) := by rw [eo]; unfold pw_i; decide
        have y57 : ∀ {post : Int32 → Prop} {J : Int32 → Int32 → Int32 → Prop}, J (nI o) x2 (nI i + 1) → wY_firstFault_57 post J (nI o) x2 (nI i) (nI 0) (nI n) fp ck pf2 hr2 sp ix sc ye sz yj st kd pl ln dc tm sn sd op ox oy oz sh ch oth lw hg le bk fm vy := by
          intro post J h
          refine yi_in (fun a b => absurd a (by decide)) (fun _ => br_t rfl (br_f (by decide) (br_f (by decide) (br_f (by decide) ?_))))
          exact yi_in (fun a b => absurd a (by decide)) (fun _ => br_t rfl (br_f (by decide) (br_f (by decide) (nm_e h))))
        by_cases h0 : o = 0
        · subst h0
          obtain ⟨r, ob', oi', jp', hr1, hX, hY⟩ := IH 0 x2 oi jp (by omega) (ck_Sa hS hnI (by rw [eo]; decide) (by rw [eo]; decide)) (ck_Ja hJ hnI (by rw [eo]; decide)) hE
          exact XY (ob' := ob') (oi' := oi') (keep hr1) (fun post hp => ⟨v, nm_r eo' (br_t rfl (br_t rfl (br_f (by decide) (nm_r n1 (hX post hp)))))⟩) (fun post hp => br_t rfl (br_f (by decide) (y57 (by rw [n1]; exact hY post hp))))
        · exact XY (ob' := nI o) (oi' := oi) (jp' := jp) (Or.inr fault) (fun post hp => ⟨v, nm_r eo' (br_t rfl (br_f (nI_ne0 (by omega) (by omega)) (br_t rfl hp)))⟩) (fun post hp => br_t rfl (br_t (nI_lt (a := 0) (by omega) (by omega)) hp))
      · by_cases cI : oo = 10 ∨ oo = 11 ∨ oo = 12
        · have hI : pw_i (op i) := by
            rw [eo]
            rcases cI with e | e | e <;> subst e <;> unfold pw_i <;> decide
          have hin := (pw_iff _).mp hI
          rw [eo] at hin
          have xn : ∀ {post : Int32 → SX → Prop}, wX_nests_42 post (nI i) (nI n) ck fp (nI np) (nI o) hr sp ix sz pf sc st kd pl wd tm dg dc ss pc op ox oy oz ps jp oi pa pt sh lc rc dr → wpX_nests post (nI n, ck, fp, nI np, nI o, hr, sp, ix, sz, pf, sc, st, kd, pl, wd, tm, dg, dc, ss, pc, op, ox, oy, oz, ps, jp, oi, pa, pt, sh, lc, rc, dr) (nI i) := by
            intro post h
            refine ⟨v, nm_r eo' (br_f (ne 0 (by decide) c0) ?_)⟩
            rcases cI with e | e | e <;> subst e
            · exact br_t rfl h
            · exact br_f (by decide) (br_t rfl h)
            · exact br_f (by decide) (br_f (by decide) (br_t rfl h))
          by_cases h8 : o = 8
          · subst h8
            refine XY (ob' := nI 8) (oi' := oi) (jp' := jp) (Or.inr fault) (fun post hp => xn (br_f (by decide) (br_t rfl hp))) (fun post hp => br_f (ne 0 (by decide) c0) ?_)
            exact yi_in (fun _ _ => br_f (by decide) (br_t rfl hp)) (fun w => absurd hin w)
          · obtain ⟨r, ob', oi', jp', hr1, hX, hY⟩ := IH (o + 1) (x2 &&& (((1 : Int32) <<< (nI (o + 1) &&& 31)) ^^^ (-1))) (upd oi o (nI i)) jp (by omega) (ck_Si hS hI) (ck_Ji hJ) (ck_Ei (by omega) (by omega) hE hI)
            refine XY (ob' := ob') (oi' := oi') (keep hr1) (fun post hp => xn (br_t (nI_lt (b := 8) (by omega) (by decide)) ⟨vp_in_nI (by omega) (by decide), ?_⟩)) (fun post hp => br_f (ne 0 (by decide) c0) ?_)
            · rw [nI_clamp (show o < 2 ^ 31 by omega)]
              exact nm_e (nm_r (nI_1 o) (br_f (by decide) (nm_r n1 (hX post hp))))
            · have c13 : oo ≠ 13 := by omega
              have c14 : oo ≠ 14 := by omega
              refine yi_in (fun _ _ => br_f (by decide) (br_f (fun w => h8 ((nI_eq (b := 8) (by omega) (by decide)).mp w)) (br_f (ne 13 (by decide) c13) (br_f (ne 14 (by decide) c14) (br_f (ne 13 (by decide) c13) ?_))))) (fun w => absurd hin w)
              refine yi_in (fun _ _ => br_f (by decide) (nm_r (nI_1 o) (nm_e (br_f (ne 13 (by decide) c13) (br_f (ne 14 (by decide) c14) (nm_r n1 (hY post hp))))))) (fun w => absurd hin w)
        · have hnI : ¬ pw_i (nI oo) := by
            rintro (w | w | w)
            · exact cI (Or.inl ((nI_eq (b := 10) (by omega) (by decide)).mp w))
            · exact cI (Or.inr (Or.inl ((nI_eq (b := 11) (by omega) (by decide)).mp w)))
            · exact cI (Or.inr (Or.inr ((nI_eq (b := 12) (by omega) (by decide)).mp w)))
          have hnI' : ¬ pw_i (op i) := by rw [eo]; exact hnI
          have hin : ¬ (10 ≤ nI oo ∧ nI oo ≤ 12) := fun w => hnI ((pw_iff _).mpr w)
          have x0 := ne 0 (by decide) c0
          have x10 := ne 10 (by decide) (fun w => cI (Or.inl w))
          have x11 := ne 11 (by decide) (fun w => cI (Or.inr (Or.inl w)))
          have x12 := ne 12 (by decide) (fun w => cI (Or.inr (Or.inr w)))
          have y57 : ∀ {post : Int32 → Prop} {J : Int32 → Int32 → Int32 → Prop}, wY_firstFault_75 post J (nI o) x2 (nI i) (nI oo) (nI n) fp ck pf2 hr2 sp ix sc ye sz yj st kd pl ln dc tm sn sd op ox oy oz sh ch oth lw hg le bk fm vy → wY_firstFault_57 post J (nI o) x2 (nI i) (nI oo) (nI n) fp ck pf2 hr2 sp ix sc ye sz yj st kd pl ln dc tm sn sd op ox oy oz sh ch oth lw hg le bk fm vy := fun h => yi_in (fun a b => absurd ⟨a, b⟩ hin) (fun _ => br_t rfl h)
          have y111 : ∀ {post : Int32 → Prop} {J : Int32 → Int32 → Int32 → Prop}, wY_firstFault_134 post J (nI o) x2 (nI i) (nI oo) (nI n) fp ck pf2 hr2 sp ix sc ye sz yj st kd pl ln dc tm sn sd op ox oy oz sh ch oth lw hg le bk fm vy → wY_firstFault_111 post J (nI o) x2 (nI i) (nI oo) (nI n) fp ck pf2 hr2 sp ix sc ye sz yj st kd pl ln dc tm sn sd op ox oy oz sh ch oth lw hg le bk fm vy := fun h => yi_in (fun a b => absurd ⟨a, b⟩ hin) (fun _ => br_t rfl h)
          by_cases cE : oo = 13 ∨ oo = 14
          · have xn : ∀ {post : Int32 → SX → Prop}, wX_nests_89 post (nI i) (nI oo) (nI n) ck fp (nI np) (nI o) hr sp ix sz pf sc st kd pl wd tm dg dc ss pc op ox oy oz ps jp oi pa pt sh lc rc dr → wpX_nests post (nI n, ck, fp, nI np, nI o, hr, sp, ix, sz, pf, sc, st, kd, pl, wd, tm, dg, dc, ss, pc, op, ox, oy, oz, ps, jp, oi, pa, pt, sh, lc, rc, dr) (nI i) := by
              intro post h
              refine ⟨v, nm_r eo' (br_f x0 (br_f x10 (br_f x11 (br_f x12 ?_))))⟩
              rcases cE with e | e <;> subst e
              · exact br_t rfl h
              · exact br_f (by decide) (br_t rfl h)
            have y75 : ∀ {post : Int32 → Prop} {J : Int32 → Int32 → Int32 → Prop}, wY_firstFault_89 post J (nI o) x2 (nI i) (nI oo) (nI n) fp ck pf2 hr2 sp ix sc ye sz yj st kd pl ln dc tm sn sd op ox oy oz sh ch oth lw hg le bk fm vy → wY_firstFault_75 post J (nI o) x2 (nI i) (nI oo) (nI n) fp ck pf2 hr2 sp ix sc ye sz yj st kd pl ln dc tm sn sd op ox oy oz sh ch oth lw hg le bk fm vy := by
              intro post J h
              rcases cE with e | e <;> subst e
              · exact br_t rfl h
              · exact br_f (by decide) (br_t rfl h)
            rcases Nat.eq_zero_or_pos o with h0 | h0
            · subst h0
              exact XY (ob' := nI 0) (oi' := oi) (jp' := jp) (Or.inr fault) (fun post hp => xn (br_f (by decide) (br_t rfl hp))) (fun post hp => br_f x0 (y57 (y75 (br_t rfl hp))))
            · obtain ⟨o', rfl⟩ : ∃ o', o = o' + 1 := ⟨o - 1, by omega⟩
              obtain ⟨b, hb, eb, hbo, hbp⟩ := ck_top hS (by rw [eo]; rcases cE with e | e <;> subst e <;> decide)
              have vo : vp_in (nI o') 8 := vp_in_nI (by omega) (by decide)
              have vb : vp_in (nI b) 48 := vp_in_nI (by omega) (by decide)
              have co : (nI o').toNatClampNeg = o' := nI_clamp (by omega)
              have cb : (nI b).toNatClampNeg = b := nI_clamp (by omega)
              have em : nI (o' + 1) - 1 = nI o' := nI_pred o'
              have hbit := hE o' b (by omega) eb (by omega)
              have hle : 1 ≤ nI (o' + 1) := nI_le (a := 1) (by omega) (by omega)
              have hz0 : ¬ nI (o' + 1) = 0 := nI_ne0 (by omega) (by omega)
              have x89 : ∀ {post : Int32 → SX → Prop}, ((nI oo = 13 → (vp_in (nI b) 48 ∧ ((op b = 13 → post 0 (nI n, ck, fp, nI np, nI (o' + 1), hr, sp, ix, sz, pf, sc, st, kd, pl, wd, tm, dg, dc, ss, pc, op, ox, oy, oz, ps, jp, oi, pa, pt, sh, lc, rc, dr)) ∧ (¬ op b = 13 → wX_nests_130 post (nI i) (nI oo) (nI b) (nI n) ck fp (nI np) (nI (o' + 1)) hr sp ix sz pf sc st kd pl wd tm dg dc ss pc op ox oy oz ps jp oi pa pt sh lc rc dr)))) ∧ (¬ nI oo = 13 → wX_nests_130 post (nI i) (nI oo) (nI b) (nI n) ck fp (nI np) (nI (o' + 1)) hr sp ix sz pf sc st kd pl wd tm dg dc ss pc op ox oy oz ps jp oi pa pt sh lc rc dr)) → wX_nests_89 post (nI i) (nI oo) (nI n) ck fp (nI np) (nI (o' + 1)) hr sp ix sz pf sc st kd pl wd tm dg dc ss pc op ox oy oz ps jp oi pa pt sh lc rc dr := by
                intro post h
                refine br_t hle ?_
                rw [em, co]
                refine ⟨vo, nm_r eb ?_⟩
                rw [cb]
                exact h
              rcases cE with e | e
              · subst e
                by_cases h13 : op b = 13
                · exact XY (ob' := nI (o' + 1)) (oi' := oi) (jp' := jp) (Or.inr fault) (fun post hp => xn (x89 (br_t rfl ⟨vb, br_t h13 (br_t rfl hp)⟩))) (fun post hp => br_f x0 (y57 (y75 (br_f hz0 (br_t rfl (br_t ((bi_t x2 (by omega)).mpr (hbit.mpr h13)) hp))))))
                · obtain ⟨r, ob', oi', jp', hr1, hX, hY⟩ := IH (o' + 1) (x2 ||| ((1 : Int32) <<< (nI (o' + 1) &&& 31))) (upd oi o' (nI i)) (upd jp b (nI (i + 1))) ho (ck_Se hS eo) (ck_Je (by omega) hb eb hbp hJ) (ck_Ee (by omega) (by omega) hE eo)
                  refine XY (ob' := ob') (oi' := oi') (keep hr1) (fun post hp => xn (x89 (br_t rfl ⟨vb, br_f h13 ⟨vb, ?_⟩⟩))) (fun post hp => br_f x0 (y57 (y75 (br_f hz0 (br_t rfl (br_f (fun w => h13 (hbit.mp ((bi_t x2 (by omega)).mp w))) (y111 (br_t rfl (nm_e (br_f (by decide) (nm_r n1 (hY post hp))))))))))))
                  rw [cb, n1, em, co]
                  exact nm_e (br_t rfl ⟨vo, nm_e (br_f (by decide) (nm_e (hX post hp)))⟩)
              · subst e
                obtain ⟨r, ob', oi', jp', hr1, hX, hY⟩ := IH o' x2 oi (upd jp b (nI (i + 1))) (by omega) (ck_Sd hS eo) (ck_Jd (by omega) hb eb hbp eo hJ) (fun t b' ht e1 e2 => hE t b' (by omega) e1 e2)
                refine XY (ob' := ob') (oi' := oi') (keep hr1) (fun post hp => xn (x89 (br_f (by decide) ⟨vb, ?_⟩))) (fun post hp => br_f x0 (y57 (y75 (br_f hz0 (br_f (by decide) (y111 (br_f (by decide) (br_t rfl (nm_r (pk_m1 o') (nm_r n1 (hY post hp)))))))))))
                rw [cb, n1]
                exact nm_e (br_f (by decide) (nm_r em (br_f (by decide) (nm_e (hX post hp)))))
          · have x13 := ne 13 (by decide) (fun w => cE (Or.inl w))
            have x14 := ne 14 (by decide) (fun w => cE (Or.inr w))
            obtain ⟨r, ob', oi', jp', hr1, hX, hY⟩ := IH o x2 oi jp ho (ck_Sa hS hnI' (by rw [eo]; exact x13) (by rw [eo]; exact x14)) (ck_Ja hJ hnI' (by rw [eo]; exact x13)) hE
            exact XY (ob' := ob') (oi' := oi') (keep hr1) (fun post hp => ⟨v, nm_r eo' (br_f x0 (br_f x10 (br_f x11 (br_f x12 (br_f x13 (br_f x14 (br_f (by decide) (nm_r n1 (hX post hp)))))))))⟩) (fun post hp => br_f x0 (y57 (br_f x13 (br_f x14 (br_f x13 (y111 (br_f x13 (br_f x14 (nm_r n1 (hY post hp))))))))))
    · exact ⟨nI i, nI o, oi, jp, Or.inr ⟨i, by omega, rfl⟩, fun post hp => br_f hge (xf_all (by omega) hoo hnp eo (fun w => absurd w hft) (fun _ => br_t rfl hp)), fun post hp => br_f hge ⟨v, nm_r eo' (yf_all hA hn (by omega) hoo eo enp (fun w => absurd w hft) (fun _ => br_t rfl hp))⟩⟩
end
