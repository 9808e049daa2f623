/-! goOn whole: by the number of performs -/
def ag_al (yj : Int32) (h p : Nat) (hg ps op : Nat → Int32) (n : Nat) : Prop := ¬ yj = 0 ∨ p = 0 ∨ ∃ b, hg (p - 1) = nI b ∧ b < tb_z op n ∧ ¬ nI h = ps (b + 1)
theorem pg_per {op ox oy oz kd ps jp : Nat → Int32} {n i : Nat} (Pg : rl_P op ox oy oz kd ps jp n) (hi : i < n) (ho : op i = 15 ∨ op i = 16) : ∃ a b, ox i = nI a ∧ oy i = nI b ∧ a ≤ b ∧ b < tb_z op n := by
  obtain ⟨-, -, -, hf, -⟩ := Pg
  obtain ⟨o, h1, h2, -, -, -, -, h3, -⟩ := hf i hi
  apply h3
  rcases ho with z | z <;> rw [h2] at z
  · exact Or.inl ((nI_eq (b := 15) (by omega) (by decide)).mp z)
  · exact Or.inr ((nI_eq (b := 16) (by omega) (by decide)).mp z)
section
variable {cn ck fp pg ob hr sp ix sz pf sc ye yj : Int32}
variable {st kd pl wd tm dg dc ss pc op ox oy oz ps jp oi pa pt sh lc rc dr ln sn sd ch oth lw hg le bk fm vy : Nat → Int32}
variable {n : Nat}
theorem ag_L (hn : n ≤ 48) (Pg : rl_P op ox oy oz kd ps jp n) (hye : ¬ 0 ≤ ye) : ∀ (p i0 h : Nat) (le : Nat → Int32), i0 + p ≤ 6 → h ≤ n → rn_F op ox oy oz pa pt lw hg le bk fm vy n p →
    ∃ (h' p' : Nat) (ix' yj' : Int32) (pt' le' fm' : Nat → Int32), h' ≤ n ∧ p' ≤ 6 ∧ rn_F op ox oy oz pa pt' lw hg le' bk fm' vy n p' ∧ (yj' = 0 ∨ yj' = 1) ∧ ag_al yj' h' p' hg ps op n ∧
      (∀ post, post (nI n, ck, fp, pg, ob, nI h', sp, ix', sz, nI p', sc, st, kd, pl, wd, tm, dg, dc, ss, pc, op, ox, oy, oz, ps, jp, oi, pa, pt', sh, lc, rc, dr) → wX_goOn_7 post (nI n) ck fp pg ob sp ix sz sc st kd pl wd tm dg dc ss pc op ox oy oz ps jp oi pa pt sh lc rc dr (p + 1) (nI i0) (nI h) (nI p)) ∧
      (∀ post, (∃ m, wY_run_49 post m (nI n) fp ck (nI p') (nI h') sp ix' sc ye sz yj' st kd pl ln dc tm sn sd op ox oy oz sh ch oth lw hg le' bk fm' vy) → ∃ m, wY_run_49 post m (nI n) fp ck (nI p) (nI h) sp ix sc ye sz 0 st kd pl ln dc tm sn sd op ox oy oz sh ch oth lw hg le bk fm vy)
  | 0, i0, h, le, hi0, hh, hF => ⟨h, 0, ix, 0, pt, le, fm, hh, by omega, rn_0, Or.inl rfl, Or.inr (Or.inl rfl), fun post hp => br_c (fun _ => hp) (fun _ => br_t (by decide) hp), fun post hp => hp⟩
  | p + 1, i0, h, le, hi0, hh, hF => by
    obtain ⟨i, τ, ζ, hi, ho, f1, f2, f3, f4, f5, f6, g1, g2, g3, g4, g5, g6⟩ := hF p (by omega)
    obtain ⟨a, b, ea, eb, hab, hb⟩ := pg_per Pg hi ho
    have hP := Pg.2.2.1
    have hbn := tb_le op n
    have v : vp_in (nI p) 6 := vp_in_nI (by omega) (by decide)
    have vi : vp_in (nI i) 48 := vp_in_nI (by omega) (by decide)
    have cp : (nI p).toNatClampNeg = p := nI_clamp (by omega)
    have ci : (nI i).toNatClampNeg = i := nI_clamp (by omega)
    have e2 : pa (nI p).toNatClampNeg = nI i := by rw [cp, f1]
    have cb : (nI (b + 1)).toNatClampNeg = b + 1 := nI_clamp (by omega)
    have ehg : hg p = nI b := g2.trans eb
    by_cases hc : nI h = ps (b + 1)
    · by_cases hτ : τ < ζ
      · obtain ⟨k0, e, a1, a2, a3, a4, -⟩ := tb_par hP (show a < tb_z op n by omega)
        refine ⟨k0, p + 1, if op i = 16 then nI (τ + 1) else ix, 1, upd pt p (nI (τ + 1)), upd le p (nI (ζ - τ)), upd fm p (nI (τ + 1)), by omega, by omega, rn_next hF hi ho f1 f3 f4 hτ f6 g1 g2 g4 g6 rfl rfl rfl, Or.inr rfl, Or.inl (by decide), fun post hp => ?_, fun post hp => ?_⟩
        · refine br_f (nI_ge (b := 6) (by omega) (by decide)) (br_f (nI_nle (by omega) (by omega)) (nm_r (nI_pred p) ⟨v, nm_r e2 ⟨vi, ?_⟩⟩))
          rw [ci, cp, eb, nI_1, cb, f3, f2]
          exact ⟨vp_in_nI (by omega) (by decide), br_t hc ⟨v, vi, br_f (nI_ge hτ f6) (xg_time (by omega) (by omega) f1 f2 ea (by omega) a4 rfl hp)⟩⟩
        · obtain ⟨m, hm⟩ := hp
          exact ⟨m + 1, yr_again hn (by omega) hP hye ehg hb hc (ya_next (i := i) (by omega) g3 hτ f6 g5 g6 (g1.trans ea) rfl (by omega) a2 a3 hm)⟩
      · have eτ : τ = ζ := by omega
        subst eτ
        obtain ⟨h', p', ix', yj', pt', le', fm', b1, b2, b3, b4, b5, hX, hY⟩ := ag_L hn Pg hye p (i0 + 1) (i + 1) (upd le p 0) (by omega) (by omega) (rn_pop hF)
        refine ⟨h', p', ix', yj', pt', le', fm', b1, b2, b3, b4, b5, fun post hp => ?_, fun post hp => ?_⟩
        · refine br_f (nI_ge (b := 6) (by omega) (by decide)) (br_f (nI_nle (by omega) (by omega)) (nm_r (nI_pred p) ⟨v, nm_r e2 ⟨vi, ?_⟩⟩))
          rw [ci, cp, eb, nI_1, cb, f3, f2]
          exact ⟨vp_in_nI (by omega) (by decide), br_t hc ⟨v, vi, br_t (nI_le (Nat.le_refl _) f6) (nm_r (nI_1 i) (nm_r (nI_1 i0) (hX post hp)))⟩⟩
        · obtain ⟨m, hm⟩ := hY post hp
          have g3' : le p = nI 1 := by rw [g3, show τ - τ + 1 = 1 from by omega]
          exact ⟨m + 1, yr_again hn (by omega) hP hye ehg hb hc (ya_pop (by omega) g3' g4 hm)⟩
    · refine ⟨h, p + 1, ix, 0, pt, le, fm, hh, by omega, hF, Or.inl rfl, Or.inr (Or.inr ⟨b, ehg, hb, hc⟩), fun post hp => ?_, fun post hp => hp⟩
      refine br_f (nI_ge (b := 6) (by omega) (by decide)) (br_f (nI_nle (by omega) (by omega)) (nm_r (nI_pred p) ⟨v, nm_r e2 ⟨vi, ?_⟩⟩))
      rw [ci, cp, eb, nI_1, cb]
      exact ⟨vp_in_nI (by omega) (by decide), br_f hc hp⟩
end
