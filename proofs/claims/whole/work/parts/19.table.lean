/-! paragraphs and partners: the reference's scans against the class's tables -/
theorem pw_iff (o : Int32) : pw_i o ↔ (10 ≤ o ∧ o ≤ 12) := by
  unfold pw_i
  constructor
  · rintro (h | h | h) <;> subst h <;> decide
  · rintro ⟨h1, h2⟩
    have h0 : ¬ o < 0 := fun z => absurd (Int32.lt_of_le_of_lt h1 z) (by decide)
    obtain ⟨k, hk, rfl⟩ := nI_of h0
    have a := (nI_leI (a := 10) (by decide) hk).mp h1
    have b := (nI_leI (b := 12) hk (by decide)).mp h2
    rcases (show k = 10 ∨ k = 11 ∨ k = 12 by omega) with h | h | h <;> subst h
    · exact Or.inl rfl
    · exact Or.inr (Or.inl rfl)
    · exact Or.inr (Or.inr rfl)
theorem tb_par {op ps : Nat → Int32} {n p : Nat} (hP : tb_P op n ps) (hp : p < tb_z op n) : ∃ k0 e, k0 < n ∧ op k0 = 0 ∧ tb_z op k0 = p ∧ ps p = nI k0 ∧ k0 < e ∧ e ≤ n ∧ (e = n ∨ op e = 0) ∧ (∀ i, k0 < i → i < e → ¬ op i = 0) ∧ ps (p + 1) = nI e := by
  obtain ⟨k0, h1, h2, h3⟩ := tb_find op p n hp
  obtain ⟨e, ⟨e1, e2, e3⟩, e4⟩ := pk_least (fun e => k0 < e ∧ e ≤ n ∧ (e = n ∨ op e = 0)) ⟨n, h1, Nat.le_refl _, Or.inl rfl⟩
  have hno : ∀ i, k0 < i → i < e → ¬ op i = 0 := fun i hi he z => e4 i he ⟨hi, by omega, Or.inr z⟩
  have hz : ∀ d, k0 + 1 + d ≤ e → tb_z op (k0 + 1 + d) = p + 1 := by
    intro d
    induction d with
    | zero => intro _; rw [Nat.add_zero, tb_zs h2, h3]
    | succ d ih =>
      intro hd
      have := ih (by omega)
      rw [← Nat.add_assoc, tb_zn (hno _ (by omega) (by omega)), this]
  have hze : tb_z op e = p + 1 := by
    have := hz (e - (k0 + 1)) (by omega)
    rwa [show k0 + 1 + (e - (k0 + 1)) = e from by omega] at this
  refine ⟨k0, e, h1, h2, h3, by rw [← h3]; exact hP.1 k0 h1 h2, e1, e2, e3, hno, ?_⟩
  rcases e3 with z | z
  · rw [← hze, z]
    exact hP.2
  · by_cases en : e = n
    · rw [← hze, en]
      exact hP.2
    · rw [← hze]
      exact hP.1 e (by omega) z
section
variable {cn ck fp pg ob hr sp ix sz pf sc ye yj : Int32}
variable {st kd pl wd tm dg dc ss pc op ox oy oz ps jp oi pa pt sh lc rc dr ln sn sd ch oth lw hg le bk fm vy : Nat → Int32}
variable {n p k0 e : Nat}
theorem yb_bL {post : Int32 → Prop} (hk : k0 < 48) (h0 : op k0 = 0) (hz : tb_z op k0 = p) (h : post (nI k0)) : ∀ (d i : Nat) (x2 x3 : Int32), i + d = k0 → x2 = nI i → x3 = nI (p - tb_z op i) → wY_beginOf_4 post cn fp ck pf hr sp ix sc ye sz yj st kd pl ln dc tm sn sd op ox oy oz sh ch oth lw hg le bk fm vy (d + 1) x2 x3
  | 0, i, x2, x3, hd, h2, h3 => by
    subst h2 h3
    have e1 : i = k0 := by omega
    subst e1
    rw [hz, Nat.sub_self]
    refine br_f (by decide) ⟨vp_in_nI hk (by decide), ?_⟩
    rw [nI_clamp (by omega)]
    exact br_t h0 h
  | d + 1, i, x2, x3, hd, h2, h3 => by
    subst h2 h3
    have v : vp_in (nI i) 48 := vp_in_nI (by omega) (by decide)
    have ci : (nI i).toNatClampNeg = i := nI_clamp (by omega)
    have hm := tb_mono op (show i + 1 ≤ k0 by omega)
    have hl := tb_le op k0
    have hs := tb_s op i
    by_cases ho : op i = 0
    · have hz1 := tb_zs ho
      have IH := yb_bL hk h0 hz h d (i + 1) (nI i + 1) (nI (p - tb_z op i) + (-1)) (by omega) (nI_1 i) (by rw [show p - tb_z op i = (p - tb_z op (i + 1)) + 1 from by omega, pk_m1])
      refine br_t (nI_lt (a := 0) (by omega) (by omega)) ⟨v, ?_⟩
      rw [ci]
      exact br_t ho (nm_e (nm_e IH))
    · have hz1 := tb_zn ho
      have IH := yb_bL hk h0 hz h d (i + 1) (nI i + 1) (nI (p - tb_z op i)) (by omega) (nI_1 i) (by rw [hz1])
      have go : wY_beginOf_17 post (wY_beginOf_4 post cn fp ck pf hr sp ix sc ye sz yj st kd pl ln dc tm sn sd op ox oy oz sh ch oth lw hg le bk fm vy (d + 1)) (nI i) (nI (p - tb_z op i)) cn fp ck pf hr sp ix sc ye sz yj st kd pl ln dc tm sn sd op ox oy oz sh ch oth lw hg le bk fm vy := by
        refine ⟨v, ?_⟩
        rw [ci]
        exact br_f ho (nm_e IH)
      refine br_c (fun _ => go) (fun _ => ⟨v, ?_⟩)
      rw [ci]
      exact br_f ho go
theorem yb_begin {post : Int32 → Prop} (hk : k0 < 48) (h0 : op k0 = 0) (hz : tb_z op k0 = p) (h : post (nI k0)) : wpY_beginOf post (cn, fp, ck, pf, hr, sp, ix, sc, ye, sz, yj, st, kd, pl, ln, dc, tm, sn, sd, op, ox, oy, oz, sh, ch, oth, lw, hg, le, bk, fm, vy) (nI p) :=
  ⟨k0 + 1, yb_bL hk h0 hz h k0 0 _ _ (by omega) rfl rfl⟩
theorem yb_eL {post : Int32 → Prop} (hn : n ≤ 48) (he : e ≤ n) (h1 : e = n ∨ op e = 0) (h2 : ∀ i, k0 < i → i < e → ¬ op i = 0) (h : post (nI e)) : ∀ (d i : Nat) (x2 : Int32), i + d = e → k0 < i → x2 = nI i → wY_endOf_8 post (nI n) fp ck pf hr sp ix sc ye sz yj st kd pl ln dc tm sn sd op ox oy oz sh ch oth lw hg le bk fm vy (d + 1) x2
  | 0, i, x2, hd, hi, h3 => by
    subst h3
    have e1 : i = e := by omega
    subst e1
    by_cases en : i = n
    · exact br_t (nI_le (by omega) (by omega)) h
    · refine br_f (nI_ge (by omega) (by omega)) ⟨vp_in_nI (by omega) (by decide), ?_⟩
      rw [nI_clamp (by omega)]
      exact br_t (h1.resolve_left en) h
  | d + 1, i, x2, hd, hi, h3 => by
    subst h3
    refine br_f (nI_ge (by omega) (by omega)) ⟨vp_in_nI (by omega) (by decide), ?_⟩
    rw [nI_clamp (by omega)]
    exact br_f (h2 i hi (by omega)) (nm_r (nI_1 i) (yb_eL hn he h1 h2 h d (i + 1) _ (by omega) (by omega) rfl))
theorem yb_end {post : Int32 → Prop} (hn : n ≤ 48) (hk : k0 < e) (he : e ≤ n) (h0 : op k0 = 0) (hz : tb_z op k0 = p) (h1 : e = n ∨ op e = 0) (h2 : ∀ i, k0 < i → i < e → ¬ op i = 0) (h : post (nI e)) : wpY_endOf post (nI n, fp, ck, pf, hr, sp, ix, sc, ye, sz, yj, st, kd, pl, ln, dc, tm, sn, sd, op, ox, oy, oz, sh, ch, oth, lw, hg, le, bk, fm, vy) (nI p) := by
  unfold wpY_endOf
  refine yb_begin (by omega) h0 hz ?_
  exact nm_r (nI_1 k0) ⟨e - (k0 + 1) + 1, yb_eL hn he h1 h2 h (e - (k0 + 1)) (k0 + 1) _ (by omega) (by omega) rfl⟩
theorem yb_pL {post : Int32 → Prop} : ∀ (l dd k : Nat) (x2 x3 : Int32), k + l < 48 → dd ≤ k → pw_W op l dd k 0 → (op (k + l) = 13 ∨ op (k + l) = 14) → post (nI (k + l)) → x2 = nI dd → x3 = nI k → wY_partner_6 post cn fp ck pf hr sp ix sc ye sz yj st kd pl ln dc tm sn sd op ox oy oz sh ch oth lw hg le bk fm vy (l + 1) x2 x3
  | 0, dd, k, x2, x3, hk, hdk, hw, ho, h, e2, e3 => by
    subst e2 e3
    have e0 : dd = 0 := (show 0 = dd from hw).symm
    subst e0
    have v : vp_in (nI k) 48 := vp_in_nI (by omega) (by decide)
    have ck1 : (nI k).toNatClampNeg = k := nI_clamp (by omega)
    refine br_f (by decide) ⟨v, ?_⟩
    rw [ck1]
    refine br_c (fun _ => h) (fun z => ⟨v, ?_⟩)
    exact br_t (ho.resolve_right z) h
  | l + 1, dd, k, x2, x3, hk, hdk, hw, ho, h, e2, e3 => by
    subst e2 e3
    obtain ⟨hs, hw⟩ := hw
    have v : vp_in (nI k) 48 := vp_in_nI (by omega) (by decide)
    have ck1 : (nI k).toNatClampNeg = k := nI_clamp (by omega)
    have ea : k + (l + 1) = k + 1 + l := by omega
    rw [ea] at ho h
    have IH : ∀ x2' : Int32, pw_d dd (op k) ≤ k + 1 → x2' = nI (pw_d dd (op k)) → wY_partner_6 post cn fp ck pf hr sp ix sc ye sz yj st kd pl ln dc tm sn sd op ox oy oz sh ch oth lw hg le bk fm vy (l + 1) x2' (nI k + 1) := fun x2' hb e => yb_pL l (pw_d dd (op k)) (k + 1) x2' _ (by omega) hb hw ho h e (nI_1 k)
    have go : wY_partner_32 post (wY_partner_6 post cn fp ck pf hr sp ix sc ye sz yj st kd pl ln dc tm sn sd op ox oy oz sh ch oth lw hg le bk fm vy (l + 1)) (nI dd) (nI k) cn fp ck pf hr sp ix sc ye sz yj st kd pl ln dc tm sn sd op ox oy oz sh ch oth lw hg le bk fm vy := by
      refine ⟨v, ?_⟩
      rw [ck1]
      refine yi_in (fun a b => br_f (by decide) ?_) (fun a => br_t rfl ?_)
      · have hi : pw_i (op k) := (pw_iff _).mpr ⟨a, b⟩
        have hd := pw_di (d := dd) hi
        refine nm_e ⟨v, ?_⟩
        rw [ck1]
        refine br_f (fun z => ?_) (nm_e (IH _ (by omega) (by rw [hd]; exact nI_1 _)))
        rw [z] at b
        exact absurd b (by decide)
      · have hi : ¬ pw_i (op k) := fun z => a ((pw_iff _).mp z)
        refine ⟨v, ?_⟩
        rw [ck1]
        refine br_c (fun z => nm_e (nm_e (IH _ ?_ ?_))) (fun z => nm_e (IH _ ?_ ?_))
        · rw [z, pw_d14]; omega
        · rw [z, pw_d14]
          have : dd ≠ 0 := fun w => hs ⟨w, Or.inr z⟩
          obtain ⟨c, rfl⟩ : ∃ c, dd = c + 1 := ⟨dd - 1, by omega⟩
          rw [pk_m1, Nat.add_sub_cancel]
        · rw [pw_dn hi z]; omega
        · rw [pw_dn hi z]
    by_cases hd0 : dd = 0
    · subst hd0
      refine br_f (by decide) ⟨v, ?_⟩
      rw [ck1]
      refine br_f (fun z => hs ⟨rfl, Or.inr z⟩) ⟨v, ?_⟩
      exact br_f (fun z => hs ⟨rfl, Or.inl z⟩) go
    · exact br_t (nI_lt (a := 0) (by omega) (by omega)) go
theorem yb_part {post : Int32 → Prop} {j : Nat} (he : e < 48) (hp : pw_P op j e) (h : post (nI e)) : wpY_partner post (cn, fp, ck, pf, hr, sp, ix, sc, ye, sz, yj, st, kd, pl, ln, dc, tm, sn, sd, op, ox, oy, oz, sh, ch, oth, lw, hg, le, bk, fm, vy) (nI j) := by
  obtain ⟨l, e1, hw, ho⟩ := hp
  subst e1
  exact nm_r (nI_1 j) ⟨l + 1, yb_pL l 0 (j + 1) _ _ he (by omega) hw ho h rfl rfl⟩
theorem yb_cntL {post : Int32 → Prop} (hn : n ≤ 48) (h : post (nI (tb_z op n))) : ∀ (d i : Nat) (x1 x2 : Int32), i + d = n → x1 = nI (tb_z op i) → x2 = nI i → wY_paragraphs_4 post (nI n) fp ck pf hr sp ix sc ye sz yj st kd pl ln dc tm sn sd op ox oy oz sh ch oth lw hg le bk fm vy (d + 1) x1 x2
  | 0, i, x1, x2, hd, h1, h2 => by
    subst h1 h2
    have e1 : i = n := by omega
    subst e1
    exact br_t (nI_le (Nat.le_refl _) (by omega)) h
  | d + 1, i, x1, x2, hd, h1, h2 => by
    subst h1 h2
    refine br_f (nI_ge (by omega) (by omega)) ⟨vp_in_nI (by omega) (by decide), ?_⟩
    rw [nI_clamp (by omega)]
    refine br_c (fun z => nm_e (nm_e (yb_cntL hn h d (i + 1) _ _ (by omega) ?_ (nI_1 i)))) (fun z => nm_e (yb_cntL hn h d (i + 1) _ _ (by omega) ?_ (nI_1 i)))
    · rw [tb_zs z]; exact nI_1 _
    · rw [tb_zn z]
theorem yb_cnt {post : Int32 → Prop} (hn : n ≤ 48) (h : post (nI (tb_z op n))) : wpY_paragraphs post (nI n, fp, ck, pf, hr, sp, ix, sc, ye, sz, yj, st, kd, pl, ln, dc, tm, sn, sd, op, ox, oy, oz, sh, ch, oth, lw, hg, le, bk, fm, vy) :=
  ⟨n + 1, yb_cntL hn h n 0 _ _ (by omega) rfl rfl⟩
theorem xb_fL {post : SX → Prop} (hn : n ≤ 48) (h : ∀ ps', tb_P op n ps' → post (nI n, ck, fp, nI (tb_z op n), ob, hr, sp, ix, sz, pf, sc, st, kd, pl, wd, tm, dg, dc, ss, pc, op, ox, oy, oz, ps', jp, oi, pa, pt, sh, lc, rc, dr)) : ∀ (d i : Nat) (x1 f : Int32) (q : Nat → Int32), i + d = n → x1 = nI i → f = nI (tb_z op i) → (∀ k, k < i → op k = 0 → q (tb_z op k) = nI k) →
    wX_findParagraphs_7 post (nI n) ck fp ob hr sp ix sz pf sc (d + 1) x1 f st kd pl wd tm dg dc ss pc op ox oy oz q jp oi pa pt sh lc rc dr
  | 0, i, x1, f, q, hd, h1, hf, hq => by
    subst h1 hf
    have e1 : i = n := by omega
    subst e1
    have hl := tb_le op i
    refine br_t (nI_le (Nat.le_refl _) (by omega)) ⟨vp_in_nI (by omega) (by decide), ?_⟩
    rw [nI_clamp (by omega)]
    refine nm_e (h _ ⟨fun k hk hk0 => ?_, pk_us⟩)
    have := tb_mono op (show k + 1 ≤ i by omega)
    rw [tb_zs hk0] at this
    rw [pk_un (by omega)]
    exact hq k hk hk0
  | d + 1, i, x1, f, q, hd, h1, hf, hq => by
    subst h1 hf
    have hl := tb_le op i
    refine br_f (nI_ge (by omega) (by omega)) ⟨vp_in_nI (by omega) (by decide), ?_⟩
    rw [nI_clamp (show i < 2 ^ 31 by omega), nI_clamp (show tb_z op i < 2 ^ 31 by omega)]
    refine br_c (fun z => ⟨vp_in_nI (by omega) (by decide), nm_e (nm_e (nm_e (xb_fL hn h d (i + 1) _ _ _ (by omega) (nI_1 i) ?_ ?_)))⟩) (fun z => nm_e (xb_fL hn h d (i + 1) _ _ _ (by omega) (nI_1 i) ?_ ?_))
    · rw [tb_zs z]; exact nI_1 _
    · intro k hk hk0
      by_cases ek : k = i
      · subst ek
        exact pk_us
      · have := tb_mono op (show k + 1 ≤ i by omega)
        rw [tb_zs hk0] at this
        rw [pk_un (by omega)]
        exact hq k (by omega) hk0
    · rw [tb_zn z]
    · intro k hk hk0
      by_cases ek : k = i
      · subst ek
        exact absurd hk0 z
      · exact hq k (by omega) hk0
theorem xb_find {post : SX → Prop} (hn : n ≤ 48) (h : ∀ ps', tb_P op n ps' → post (nI n, ck, fp, nI (tb_z op n), ob, hr, sp, ix, sz, pf, sc, st, kd, pl, wd, tm, dg, dc, ss, pc, op, ox, oy, oz, ps', jp, oi, pa, pt, sh, lc, rc, dr)) : wpX_findParagraphs post (nI n, ck, fp, pg, ob, hr, sp, ix, sz, pf, sc, st, kd, pl, wd, tm, dg, dc, ss, pc, op, ox, oy, oz, ps, jp, oi, pa, pt, sh, lc, rc, dr) :=
  ⟨n + 1, xb_fL hn h n 0 _ _ _ (by omega) rfl rfl (fun k hk => absurd hk (by omega))⟩
end
