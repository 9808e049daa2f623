/-! number and text -/
theorem gn_in {p : Int32} {lo hi : Nat} (h1 : lo < 2 ^ 31) (h2 : hi < 2 ^ 31) : (∃ D, lo ≤ D ∧ D ≤ hi ∧ p = nI D) ↔ (¬ p < nI lo ∧ ¬ nI hi < p) := by
  constructor
  · rintro ⟨D, a, b, rfl⟩
    exact ⟨nI_nlt a (by omega), nI_nlt b h2⟩
  · rintro ⟨a, b⟩
    have h0 : ¬ p < 0 := fun w => a (Int32.lt_of_lt_of_le w (nI_pos' h1))
    obtain ⟨D, hD, rfl⟩ := nI_of h0
    exact ⟨D, Nat.le_of_not_lt (fun w => a (nI_lt w h1)), Nat.le_of_not_lt (fun w => b (nI_lt w hD)), rfl⟩
/-- an item of w places lies at p1, times over -/
def cl_P (p0 p1 p3 : Int32) (w j a T : Nat) : Prop := p0 = nI j ∧ j < 12 ∧ p1 = nI a ∧ p3 = nI T ∧ 1 ≤ T ∧ T ≤ 9 ∧ a + w * T ≤ 96
theorem cl_b {w T : Nat} (hw : w ≤ 12) (hT : T ≤ 9) : w * T ≤ 108 := Nat.le_trans (Nat.mul_le_mul hw hT) (by decide)
section
variable {cn ck fp pg ob hr sp ix sz pf sc ye yj : Int32}
variable {st kd pl wd tm dg dc ss pc op ox oy oz ps jp oi pa pt sh lc rc dr ln sn sd ch oth lw hg le bk fm vy : Nat → Int32}
variable {p0 p1 p2 p3 p4 p5 : Int32} {w : Nat}
theorem xn_lie {post : Int32 → Prop} (hw : w ≤ 12) (h1 : ∀ j a T, cl_P p0 p1 p3 w j a T → post 1) (h0 : (¬ ∃ j a T, cl_P p0 p1 p3 w j a T) → post 0) : wpX_canLie post (cn, ck, fp, pg, ob, hr, sp, ix, sz, pf, sc, st, kd, pl, wd, tm, dg, dc, ss, pc, op, ox, oy, oz, ps, jp, oi, pa, pt, sh, lc, rc, dr) p0 p1 (nI w) p3 := by
  have no : ∀ {Q : Prop}, (∀ j a T, cl_P p0 p1 p3 w j a T → False) → post 0 := fun h => h0 (fun ⟨j, a, T, z⟩ => h j a T z)
  refine br_c (fun a => ?_) (fun a => br_c (fun b => ?_) (fun b => br_c (fun c => ?_) (fun c => br_c (fun d => br_c (fun e => ?_) (fun e => ?_)) (fun d => ?_))))
  · exact no (Q := True) (by rintro j a' T ⟨rfl, q, -⟩; exact nI_pos (by omega) a)
  · exact no (Q := True) (by rintro j a' T ⟨rfl, q, -⟩; exact nI_ge (b := 12) q (by decide) b)
  · exact no (Q := True) (by rintro j a' T ⟨-, -, -, rfl, q, q2, -⟩; exact nI_nlt (b := 1) q (by omega) c)
  · exact no (Q := True) (by rintro j a' T ⟨-, -, rfl, -, -, -, q⟩; exact nI_pos (by omega) e)
  · obtain ⟨j, hj, rfl⟩ := nI_of a
    have hj12 : j < 12 := Nat.lt_of_not_le (fun z => b (nI_le (a := 12) z hj))
    obtain ⟨T, hT1, hT2, rfl⟩ := (gn_in (lo := 1) (hi := 9) (by decide) (by decide)).mpr ⟨c, Int32.not_lt.mpr d⟩
    obtain ⟨a', ha', rfl⟩ := nI_of e
    have hb := cl_b hw hT2
    rw [pk_mul]
    by_cases h96 : w * T ≤ 96
    · rw [show (96 : Int32) = nI 96 from rfl, pk_sub h96]
      refine br_c (fun g => no (Q := True) ?_) (fun g => h1 j a' T ⟨rfl, hj12, rfl, rfl, hT1, hT2, ?_⟩)
      · rintro j' a2 T' ⟨-, -, e1, e2, -, q9, q⟩
        rw [nI_eq ha' (by omega)] at e1
        rw [nI_eq (by omega) (by omega)] at e2
        subst e1 e2
        exact nI_nlt (by omega) (by omega) g
      · have := Nat.le_of_not_lt (fun z => g (nI_lt z ha'))
        omega
    · refine br_t ?_ (no (Q := True) ?_)
      · refine Int32.lt_of_lt_of_le (pk_sneg (a := 96) (by omega) (by omega)) (nI_pos' ha')
      · rintro j' a2 T' ⟨-, -, e1, e2, -, q9, q⟩
        rw [nI_eq (by omega) (by omega)] at e2
        subst e2
        omega
  · exact no (Q := True) (by rintro j a' T ⟨-, -, -, rfl, q, q2, -⟩; exact d (nI_le (b := 9) q2 (by decide)))
theorem yn_lie {post : Int32 → Prop} (hw : w ≤ 12) (h1 : ∀ j a T, cl_P p0 p1 p3 w j a T → post 1) (h0 : (¬ ∃ j a T, cl_P p0 p1 p3 w j a T) → post 0) : wpY_lies post (cn, fp, ck, pf, hr, sp, ix, sc, ye, sz, yj, st, kd, pl, ln, dc, tm, sn, sd, op, ox, oy, oz, sh, ch, oth, lw, hg, le, bk, fm, vy) p0 p1 (nI w) p3 := by
  have no : ∀ {Q : Prop}, (∀ j a T, cl_P p0 p1 p3 w j a T → False) → post 0 := fun h => h0 (fun ⟨j, a, T, z⟩ => h j a T z)
  unfold wpY_lies
  refine yi_in (fun a b => br_f (by decide) (yi_in (fun c d => br_f (by decide) (br_c (fun e => ?_) (fun e => br_c (fun f => ?_) (fun f => ?_)))) (fun c => br_t rfl ?_))) (fun a => br_t rfl ?_)
  · exact no (Q := True) (by rintro j a' T ⟨-, -, rfl, -, -, -, q⟩; exact nI_pos (by omega) e)
  · exact no (Q := True) (by rintro j a' T ⟨-, -, rfl, -, -, -, q⟩; exact nI_nlt (a := 96) (b := a') (by omega) (by decide) f)
  · obtain ⟨j, -, hj, rfl⟩ := (gn_in (lo := 0) (hi := 11) (by decide) (by decide)).mpr ⟨Int32.not_lt.mpr a, Int32.not_lt.mpr b⟩
    obtain ⟨T, hT1, hT2, rfl⟩ := (gn_in (lo := 1) (hi := 9) (by decide) (by decide)).mpr ⟨Int32.not_lt.mpr c, Int32.not_lt.mpr d⟩
    obtain ⟨a', -, ha', rfl⟩ := (gn_in (p := p1) (lo := 0) (hi := 96) (by decide) (by decide)).mpr ⟨e, f⟩
    have hb := cl_b hw hT2
    rw [pk_mul, nI_add]
    refine br_c (fun g => no (Q := True) ?_) (fun g => h1 j a' T ⟨rfl, by omega, rfl, rfl, hT1, hT2, Nat.le_of_not_lt (fun z => g (nI_lt (a := 96) z (by omega)))⟩)
    rintro j' a2 T' ⟨-, -, e1, e2, -, q9, q⟩
    rw [nI_eq (by omega) (by omega)] at e1
    rw [nI_eq (by omega) (by omega)] at e2
    subst e1 e2
    exact nI_nlt (a := 96) q (by decide) g
  · exact no (Q := True) (by rintro j a' T ⟨-, -, -, rfl, q, q2, -⟩; exact c ⟨nI_le (a := 1) q (by omega), nI_le (b := 9) q2 (by decide)⟩)
  · exact no (Q := True) (by rintro j a' T ⟨rfl, q, -⟩; exact a ⟨nI_pos' (by omega), nI_le (b := 11) (by omega) (by decide)⟩)
theorem xn_lay {post : SX → Prop} {j : Nat} (hj : j < 12) (h : post (cn, 0, fp, pg, ob, hr, sp, ix, sz, pf, sc, st, upd kd j p1, upd pl j p2, upd wd j p3, upd tm j p4, upd dg j 0, upd dc j 0, upd ss j 0, upd pc j 0, op, ox, oy, oz, ps, jp, oi, pa, pt, sh, lc, rc, dr)) : wpX_lay post (cn, ck, fp, pg, ob, hr, sp, ix, sz, pf, sc, st, kd, pl, wd, tm, dg, dc, ss, pc, op, ox, oy, oz, ps, jp, oi, pa, pt, sh, lc, rc, dr) (nI j) p1 p2 p3 p4 := by
  have v : vp_in (nI j) 12 := vp_in_nI hj (by decide)
  refine ⟨v, ?_⟩
  rw [nI_clamp (by omega)]
  exact nm_e ⟨v, nm_e ⟨v, nm_e ⟨v, nm_e ⟨v, nm_e ⟨v, nm_e ⟨v, nm_e ⟨v, nm_e h⟩⟩⟩⟩⟩⟩⟩
theorem yn_make {post : SY → Prop} {j : Nat} (hj : j < 12) (h : post (cn, fp, 0, pf, hr, sp, ix, sc, ye, sz, yj, st, upd kd j p1, upd pl j p2, upd ln j p3, upd dc j p4, upd tm j p5, sn, sd, op, ox, oy, oz, sh, ch, oth, lw, hg, le, bk, fm, vy)) : wpY_make post (cn, fp, ck, pf, hr, sp, ix, sc, ye, sz, yj, st, kd, pl, ln, dc, tm, sn, sd, op, ox, oy, oz, sh, ch, oth, lw, hg, le, bk, fm, vy) (nI j) p1 p2 p3 p4 p5 := by
  have v : vp_in (nI j) 12 := vp_in_nI hj (by decide)
  refine ⟨v, ?_⟩
  rw [nI_clamp (by omega)]
  exact nm_e ⟨v, nm_e ⟨v, nm_e ⟨v, nm_e ⟨v, nm_e h⟩⟩⟩⟩
def gn_N (p0 p1 p2 p3 p5 : Int32) (S j a T D B : Nat) : Prop := cl_P p0 p1 p5 (S + D) j a T ∧ 1 ≤ D ∧ D ≤ 9 ∧ p2 = nI D ∧ B ≤ D ∧ p3 = nI B
theorem xn_num {post : Int32 → SX → Prop} {S : Nat} (hS : S ≤ 1) (h1 : ∀ j a T D B, gn_N p0 p1 p2 p3 p5 S j a T D B → post 1 (cn, 0, fp, pg, ob, hr, sp, ix, sz, pf, sc, st, upd kd j 1, upd pl j (nI a), upd wd j (nI (S + D)), upd tm j (nI T), upd dg j (nI D), upd dc j (nI B), upd ss j (nI S), upd pc j 0, op, ox, oy, oz, ps, jp, oi, pa, pt, sh, lc, rc, dr))
    (h0 : (¬ ∃ j a T D B, gn_N p0 p1 p2 p3 p5 S j a T D B) → post 0 (cn, ck, fp, pg, ob, hr, sp, ix, sz, pf, sc, st, kd, pl, wd, tm, dg, dc, ss, pc, op, ox, oy, oz, ps, jp, oi, pa, pt, sh, lc, rc, dr)) : wpX_number post (cn, ck, fp, pg, ob, hr, sp, ix, sz, pf, sc, st, kd, pl, wd, tm, dg, dc, ss, pc, op, ox, oy, oz, ps, jp, oi, pa, pt, sh, lc, rc, dr) p0 p1 p2 p3 (nI S) p5 := by
  have no : (∀ j a T D B, gn_N p0 p1 p2 p3 p5 S j a T D B → False) → post 0 (cn, ck, fp, pg, ob, hr, sp, ix, sz, pf, sc, st, kd, pl, wd, tm, dg, dc, ss, pc, op, ox, oy, oz, ps, jp, oi, pa, pt, sh, lc, rc, dr) := fun h => h0 (fun ⟨j, a, T, D, B, z⟩ => h j a T D B z)
  refine br_c (fun a => no ?_) (fun a => br_c (fun b => no ?_) (fun b => br_c (fun c => no ?_) (fun c => br_c (fun d => ?_) (fun d => no ?_))))
  · rintro j a' T D B ⟨-, q, q2, rfl, -⟩
    exact nI_nlt (b := 1) q (by omega) a
  · rintro j a' T D B ⟨-, q, q2, rfl, -⟩
    exact nI_nlt (a := 9) q2 (by decide) b
  · rintro j a' T D B ⟨-, q, q2, -, q3, rfl⟩
    exact nI_pos (by omega) c
  · obtain ⟨D, hD1, hD2, rfl⟩ := (gn_in (lo := 1) (hi := 9) (by decide) (by decide)).mpr ⟨a, b⟩
    obtain ⟨B, hB, rfl⟩ := nI_of c
    have hBD := (nI_leI hB (by omega)).mp d
    have k : wX_number_34 post p0 p1 (nI D) (nI B) p5 (nI S) cn ck fp pg ob hr sp ix sz pf sc st kd pl wd tm dg dc ss pc op ox oy oz ps jp oi pa pt sh lc rc dr := by
      refine nm_r (nI_add S D) ?_
      refine xn_lie (w := S + D) (by omega) (fun j a' T C => br_f (by decide) ?_) (fun C => br_t rfl (no ?_))
      · have G : gn_N p0 p1 (nI D) (nI B) p5 S j a' T D B := ⟨C, hD1, hD2, rfl, hBD, rfl⟩
        obtain ⟨rfl, hj, rfl, rfl, hT1, hT2, hl⟩ := C
        have v : vp_in (nI j) 12 := vp_in_nI hj (by decide)
        refine xn_lay hj ⟨v, ?_⟩
        rw [nI_clamp (show j < 2 ^ 31 by omega)]
        refine nm_r pk_uu ⟨v, nm_r pk_uu ⟨v, nm_r pk_uu (h1 j a' T D B G)⟩⟩
      · rintro j a' T D' B' ⟨C', -, q2, e, -⟩
        rw [nI_eq (by omega) (by omega)] at e
        subst e
        exact C ⟨j, a', T, C'⟩
    rcases (show S = 0 ∨ S = 1 by omega) with e | e <;> subst e
    · exact br_t rfl k
    · exact br_f (by decide) k
  · rintro j a' T D B ⟨-, q, q2, rfl, q3, rfl⟩
    exact d (nI_le q3 (by omega))
theorem yn_num {post : Int32 → SY → Prop} {S : Nat} (hS : S ≤ 1) (h1 : ∀ j a T D B, gn_N p0 p1 p2 p3 p5 S j a T D B → post 1 (cn, fp, 0, pf, hr, sp, ix, sc, ye, sz, yj, st, upd kd j 1, upd pl j (nI a), upd ln j (nI D), upd dc j (nI B), upd tm j (nI T), sn, upd sd j (nI S), op, ox, oy, oz, sh, ch, oth, lw, hg, le, bk, fm, vy))
    (h0 : (¬ ∃ j a T D B, gn_N p0 p1 p2 p3 p5 S j a T D B) → post 0 (cn, fp, ck, pf, hr, sp, ix, sc, ye, sz, yj, st, kd, pl, ln, dc, tm, sn, sd, op, ox, oy, oz, sh, ch, oth, lw, hg, le, bk, fm, vy)) : wpY_number post (cn, fp, ck, pf, hr, sp, ix, sc, ye, sz, yj, st, kd, pl, ln, dc, tm, sn, sd, op, ox, oy, oz, sh, ch, oth, lw, hg, le, bk, fm, vy) p0 p1 p2 p3 (nI S) p5 := by
  have no : (∀ j a T D B, gn_N p0 p1 p2 p3 p5 S j a T D B → False) → post 0 (cn, fp, ck, pf, hr, sp, ix, sc, ye, sz, yj, st, kd, pl, ln, dc, tm, sn, sd, op, ox, oy, oz, sh, ch, oth, lw, hg, le, bk, fm, vy) := fun h => h0 (fun ⟨j, a, T, D, B, z⟩ => h j a T D B z)
  unfold wpY_number
  refine yi_in (fun a b => br_f (by decide) ?_) (fun a => br_t rfl (no ?_))
  · obtain ⟨D, hD1, hD2, rfl⟩ := (gn_in (lo := 1) (hi := 9) (by decide) (by decide)).mpr ⟨Int32.not_lt.mpr a, Int32.not_lt.mpr b⟩
    refine yi_in (fun c d => br_f (by decide) ?_) (fun c => br_t rfl (no ?_))
    · obtain ⟨B, hB, rfl⟩ := nI_of (Int32.not_lt.mpr c)
      have hBD := (nI_leI hB (by omega)).mp d
      have k : wY_number_35 post p0 p1 (nI D) (nI B) (nI S) p5 (nI (S + D)) p1 p0 cn fp ck pf hr sp ix sc ye sz yj st kd pl ln dc tm sn sd op ox oy oz sh ch oth lw hg le bk fm vy := by
        unfold wY_number_35
        refine yn_lie (w := S + D) (by omega) (fun j a' T C => br_f (by decide) ?_) (fun C => br_t rfl (no ?_))
        · have G : gn_N p0 p1 (nI D) (nI B) p5 S j a' T D B := ⟨C, hD1, hD2, rfl, hBD, rfl⟩
          obtain ⟨rfl, hj, rfl, rfl, hT1, hT2, hl⟩ := C
          refine yn_make hj ⟨vp_in_nI hj (by decide), ?_⟩
          rw [nI_clamp (show j < 2 ^ 31 by omega)]
          have e : vp_nar .boolean (nI S) = nI S := by
            rcases (show S = 0 ∨ S = 1 by omega) with e | e <;> subst e <;> rfl
          rw [e]
          exact nm_e (h1 j a' T D B G)
        · rintro j a' T D' B' ⟨C', -, q2, e, -⟩
          rw [nI_eq (by omega) (by omega)] at e
          subst e
          exact C ⟨j, a', T, C'⟩
      rcases (show S = 0 ∨ S = 1 by omega) with e | e <;> subst e
      · rw [Nat.zero_add] at k
        exact br_t rfl k
      · rw [Nat.add_comm] at k
        refine br_f (by decide) ?_
        rw [nI_1]
        exact k
    · rintro j a' T D' B ⟨-, q, q2, e, q3, rfl⟩
      rw [nI_eq (by omega) (by omega)] at e
      subst e
      exact c ⟨nI_pos' (by omega), nI_le q3 (by omega)⟩
  · rintro j a' T D B ⟨-, q, q2, rfl, -⟩
    exact a ⟨nI_le (a := 1) q (by omega), nI_le (b := 9) q2 (by decide)⟩
def gn_T (p0 p1 p2 p3 : Int32) (j a T W : Nat) : Prop := cl_P p0 p1 p3 W j a T ∧ 1 ≤ W ∧ W ≤ 12 ∧ p2 = nI W
theorem xn_txt {post : Int32 → SX → Prop} (h1 : ∀ j a T W, gn_T p0 p1 p2 p3 j a T W → post 1 (cn, 0, fp, pg, ob, hr, sp, ix, sz, pf, sc, st, upd kd j 2, upd pl j (nI a), upd wd j (nI W), upd tm j (nI T), upd dg j 0, upd dc j 0, upd ss j 0, upd pc j 0, op, ox, oy, oz, ps, jp, oi, pa, pt, sh, lc, rc, dr))
    (h0 : (¬ ∃ j a T W, gn_T p0 p1 p2 p3 j a T W) → post 0 (cn, ck, fp, pg, ob, hr, sp, ix, sz, pf, sc, st, kd, pl, wd, tm, dg, dc, ss, pc, op, ox, oy, oz, ps, jp, oi, pa, pt, sh, lc, rc, dr)) : wpX_text post (cn, ck, fp, pg, ob, hr, sp, ix, sz, pf, sc, st, kd, pl, wd, tm, dg, dc, ss, pc, op, ox, oy, oz, ps, jp, oi, pa, pt, sh, lc, rc, dr) p0 p1 p2 p3 := by
  have no : (∀ j a T W, gn_T p0 p1 p2 p3 j a T W → False) → post 0 (cn, ck, fp, pg, ob, hr, sp, ix, sz, pf, sc, st, kd, pl, wd, tm, dg, dc, ss, pc, op, ox, oy, oz, ps, jp, oi, pa, pt, sh, lc, rc, dr) := fun h => h0 (fun ⟨j, a, T, W, z⟩ => h j a T W z)
  refine br_c (fun a => no ?_) (fun a => br_c (fun b => no ?_) (fun b => ?_))
  · rintro j a' T W ⟨-, q, q2, rfl⟩
    exact nI_nlt (b := 1) q (by omega) a
  · rintro j a' T W ⟨-, q, q2, rfl⟩
    exact nI_nlt (a := 12) q2 (by decide) b
  · obtain ⟨W, hW1, hW2, rfl⟩ := (gn_in (lo := 1) (hi := 12) (by decide) (by decide)).mpr ⟨a, b⟩
    refine xn_lie hW2 (fun j a' T C => br_f (by decide) ?_) (fun C => br_t rfl (no ?_))
    · have G : gn_T p0 p1 (nI W) p3 j a' T W := ⟨C, hW1, hW2, rfl⟩
      obtain ⟨rfl, hj, rfl, rfl, hT1, hT2, hl⟩ := C
      exact xn_lay hj (h1 j a' T W G)
    · rintro j a' T W' ⟨C', -, q2, e⟩
      rw [nI_eq (by omega) (by omega)] at e
      subst e
      exact C ⟨j, a', T, C'⟩
theorem yn_txt {post : Int32 → SY → Prop} (h1 : ∀ j a T W, gn_T p0 p1 p2 p3 j a T W → post 1 (cn, fp, 0, pf, hr, sp, ix, sc, ye, sz, yj, st, upd kd j 2, upd pl j (nI a), upd ln j (nI W), upd dc j 0, upd tm j (nI T), sn, sd, op, ox, oy, oz, sh, ch, oth, lw, hg, le, bk, fm, vy))
    (h0 : (¬ ∃ j a T W, gn_T p0 p1 p2 p3 j a T W) → post 0 (cn, fp, ck, pf, hr, sp, ix, sc, ye, sz, yj, st, kd, pl, ln, dc, tm, sn, sd, op, ox, oy, oz, sh, ch, oth, lw, hg, le, bk, fm, vy)) : wpY_text post (cn, fp, ck, pf, hr, sp, ix, sc, ye, sz, yj, st, kd, pl, ln, dc, tm, sn, sd, op, ox, oy, oz, sh, ch, oth, lw, hg, le, bk, fm, vy) p0 p1 p2 p3 := by
  have no : (∀ j a T W, gn_T p0 p1 p2 p3 j a T W → False) → post 0 (cn, fp, ck, pf, hr, sp, ix, sc, ye, sz, yj, st, kd, pl, ln, dc, tm, sn, sd, op, ox, oy, oz, sh, ch, oth, lw, hg, le, bk, fm, vy) := fun h => h0 (fun ⟨j, a, T, W, z⟩ => h j a T W z)
  unfold wpY_text
  refine yi_in (fun a b => br_f (by decide) ?_) (fun a => br_t rfl (no ?_))
  · obtain ⟨W, hW1, hW2, rfl⟩ := (gn_in (lo := 1) (hi := 12) (by decide) (by decide)).mpr ⟨Int32.not_lt.mpr a, Int32.not_lt.mpr b⟩
    refine yn_lie hW2 (fun j a' T C => br_f (by decide) ?_) (fun C => br_t rfl (no ?_))
    · have G : gn_T p0 p1 (nI W) p3 j a' T W := ⟨C, hW1, hW2, rfl⟩
      obtain ⟨rfl, hj, rfl, rfl, hT1, hT2, hl⟩ := C
      exact yn_make hj (h1 j a' T W G)
    · rintro j a' T W' ⟨C', -, q2, e⟩
      rw [nI_eq (by omega) (by omega)] at e
      subst e
      exact C ⟨j, a', T, C'⟩
  · rintro j a' T W ⟨-, q, q2, rfl⟩
    exact a ⟨nI_le (a := 1) q (by omega), nI_le (b := 12) q2 (by decide)⟩
end
