/-! store of the reference: the digits into others, then a number's places -/
section
variable {cn ck fp pg ob hr sp ix sz pf sc ye yj : Int32}
variable {st kd pl wd tm dg dc ss pc op ox oy oz ps jp oi pa pt sh lc rc dr ln sn sd ch oth lw hg le bk fm vy : Nat → Int32}
variable {K A W T D B S L e j F M m has : Nat} {s : Bool}
def ys_g (m has B D : Nat) : Nat → Nat := fun i => dg_d m has B (D - 1 - i)
def ys_o (m has B D : Nat) : Nat → Int32 := fun i => nI (dg_d m has B (D - 1 - i))
/-- the loop that fills others; what comes behind it is asked as wY_store_92 at its end -/
theorem ys_digL {post : SY → Prop} {p : Int32} (hj : j < 12) (hB : dc j = nI B) (hB9 : B ≤ 9) (hD : D ≤ 9) (hm : m < 9000000000000000000) (hh : has ≤ 9) (hs : s = true → 0 < m)
    (h : ∀ n, wY_store_92 post (nI j) (ar_l (ar_s s m)) (nI has) (nI D) p cn fp ck pf hr sp ix sc ye sz yj (n + 1) (rd_b (bl_f s (ys_g m has B D) D)) (nI D) st kd pl ln dc tm sn sd op ox oy oz sh ch (sg_put oth 0 0 D (ys_o m has B D)) lw hg le bk fm vy) :
    ∀ (d i : Nat) (x9 x10 : Int32) (q : Nat → Int32), i + d = D → x9 = rd_b (bl_f s (ys_g m has B D) i) → x10 = nI i → q = sg_put oth 0 0 i (ys_o m has B D) →
    wY_store_92 post (nI j) (ar_l (ar_s s m)) (nI has) (nI D) p cn fp ck pf hr sp ix sc ye sz yj (d + 1) x9 x10 st kd pl ln dc tm sn sd op ox oy oz sh ch q lw hg le bk fm vy
  | 0, i, x9, x10, q, hd, h9, h10, hq => by
    subst h9 h10 hq
    have e1 : i = D := by omega
    subst e1
    exact h 0
  | d + 1, i, x9, x10, q, hd, h9, h10, hq => by
    subst h9 h10 hq
    have v : vp_in (nI j) 12 := vp_in_nI hj (by decide)
    have ek : (nI D - 1) - nI i = nI (D - 1 - i) := by
      obtain ⟨c, rfl⟩ : ∃ c, D = c + 1 := ⟨D - 1, by omega⟩
      rw [nI_pred, pk_sub (by omega), Nat.add_sub_cancel]
    refine br_f (nI_ge (by omega) (by omega)) ⟨v, ?_⟩
    rw [nI_clamp (show j < 2 ^ 31 by omega), hB, ek]
    refine yw_digit hm hh hB9 (by omega) ⟨vp_in_nI (by omega) (by decide), ?_⟩
    rw [nI_clamp (show i < 2 ^ 31 by omega)]
    have eq1 : upd (sg_put oth 0 0 i (ys_o m has B D)) i (nI (dg_d m has B (D - 1 - i))) = sg_put oth 0 0 (i + 1) (ys_o m has B D) := sg_up0 oth i (ys_o m has B D)
    refine nm_r eq1 ?_
    have IH : ∀ x9' : Int32, x9' = rd_b (bl_f s (ys_g m has B D) (i + 1)) → wY_store_92 post (nI j) (ar_l (ar_s s m)) (nI has) (nI D) p cn fp ck pf hr sp ix sc ye sz yj (d + 1) x9' (nI i + 1) st kd pl ln dc tm sn sd op ox oy oz sh ch (sg_put oth 0 0 (i + 1) (ys_o m has B D)) lw hg le bk fm vy := fun x9' e9 =>
      ys_digL hj hB hB9 hD hm hh hs h d (i + 1) x9' _ _ (by omega) e9 (nI_1 i) rfl
    have eb : bl_f s (ys_g m has B D) (i + 1) = (bl_f s (ys_g m has B D) i || (s && decide (dg_d m has B (D - 1 - i) ≠ 0))) := rfl
    have ev : sg_put oth 0 0 (i + 1) (ys_o m has B D) i = nI (dg_d m has B (D - 1 - i)) := sg_in0 oth 0 (i + 1) (ys_o m has B D) (by omega) (by omega)
    have hlt := dg_lt m has B (D - 1 - i)
    rw [ar_pos (by omega) hs]
    refine br_c (fun z => nm_e (nm_e (IH _ ?_))) (fun z => ⟨vp_in_nI (by omega) (by decide), ?_⟩)
    · rw [rd_o0, eb, z, Bool.false_and, Bool.or_false]
    · have hs1 : s = true := by
        cases s with
        | false => exact absurd rfl z
        | true => rfl
      rw [ev]
      refine br_c (fun w => nm_e (nm_e (IH _ ?_))) (fun w => nm_e (nm_e (IH _ ?_)))
      · have w0 : dg_d m has B (D - 1 - i) = 0 := (nI_eq (b := 0) (by omega) (by decide)).mp w
        rw [rd_o0, eb, w0, decide_eq_false (by decide), Bool.and_false, Bool.or_false]
      · have w0 : dg_d m has B (D - 1 - i) ≠ 0 := fun y => w (by rw [y]; rfl)
        rw [rd_o1, eb, hs1, decide_eq_true w0, Bool.true_and, Bool.or_true]
        rfl
theorem ys_putL {post : SY → Prop} (hj : j < 12) (hsd : sd j = nI S) (hS : S ≤ 1) (hD : D ≤ 9) (hF : F + S + D ≤ 96) {f : Nat → Int32} (ho : ∀ i, i < D → oth i = f i) (h : post (cn, fp, ck, pf, hr, sp, ix, sc, ye, sz, yj, sg_put st (F + S) 0 D f, kd, pl, ln, dc, tm, sn, sd, op, ox, oy, oz, sh, ch, oth, lw, hg, le, bk, fm, vy)) :
    ∀ (d i : Nat) (x10 : Int32) (q : Nat → Int32), i + d = D → x10 = nI i → q = sg_put st (F + S) 0 i f →
    wY_store_210 post (nI j) (nI D) (nI F) cn fp ck pf hr sp ix sc ye sz yj (d + 1) x10 q kd pl ln dc tm sn sd op ox oy oz sh ch oth lw hg le bk fm vy
  | 0, i, x10, q, hd, h10, hq => by
    subst h10 hq
    have e1 : i = D := by omega
    subst e1
    exact br_t (nI_le (Nat.le_refl _) (by omega)) h
  | d + 1, i, x10, q, hd, h10, hq => by
    subst h10 hq
    have v : vp_in (nI j) 12 := vp_in_nI hj (by decide)
    refine br_f (nI_ge (by omega) (by omega)) ⟨v, ?_⟩
    rw [nI_clamp (show j < 2 ^ 31 by omega), hsd]
    have go : wY_store_237 post (wY_store_210 post (nI j) (nI D) (nI F) cn fp ck pf hr sp ix sc ye sz yj (d + 1)) (nI j) (nI D) (nI F) (nI i) (nI S) (nI F) cn fp ck pf hr sp ix sc ye sz yj (sg_put st (F + S) 0 i f) kd pl ln dc tm sn sd op ox oy oz sh ch oth lw hg le bk fm vy := by
      refine ⟨vp_in_nI (by omega) (by decide), ?_⟩
      rw [nI_add, nI_add, nI_clamp (show F + S + i < 2 ^ 31 by omega), nI_clamp (show i < 2 ^ 31 by omega), ho i (by omega)]
      refine ⟨vp_in_nI (by omega) (by decide), nm_r (sg_up st (F + S) 0 i f (by omega)) (nm_e ?_)⟩
      exact ys_putL hj hsd hS hD hF ho h d (i + 1) _ _ (by omega) (nI_1 i) rfl
    rcases (show S = 0 ∨ S = 1 by omega) with e0 | e0
    · rw [e0] at go ⊢
      exact br_t rfl go
    · rw [e0] at go ⊢
      exact br_f (by decide) go
/-- a number's storage as the reference writes it -/
def ys_x (st : Nat → Int32) (F S L : Nat) (b : Bool) (f : Nat → Int32) : Nat → Int32 :=
  if S = 0 then sg_put st (F + S) 0 L f else sg_put (upd st F (if b = true then 11 else 12)) (F + S) 0 L f
theorem ys_eq {st : Nat → Int32} {b : Bool} (hW : W = L + S) (hS : S ≤ 1) (hb : b = true ↔ (s = true ∧ 0 < M)) (hM : ∀ k, k < L → M / 10 ^ k % 10 = dg_d m has B k) : ys_x st F S L b (ys_o m has B L) = sr_x st F S W s M := by
  unfold ys_x sr_x
  have hf : ∀ i, i < L → ys_o m has B L i = sr_f M W (S + i) := by
    intro i hi
    unfold ys_o sr_f
    rw [show W - 1 - (S + i) = L - 1 - i from by omega, hM _ (by omega)]
  rcases (show S = 0 ∨ S = 1 by omega) with rfl | rfl
  · rw [if_pos rfl, if_pos rfl, hW]
    refine sg_cg _ _ _ _ fun i _ hi => ?_
    rw [hf i (by omega), Nat.zero_add, hW]
  · rw [if_neg (show ¬ (1 = 0) by decide), if_neg (show ¬ (1 = 0) by decide)]
    have e11 : (if b = true then (11 : Int32) else 12) = (if s = true ∧ 0 < M then 11 else 12) := by
      by_cases z : b = true
      · rw [if_pos z, if_pos (hb.mp z)]
      · rw [if_neg z, if_neg (fun w => z (hb.mpr w))]
    rw [e11]
    funext i
    unfold sg_put upd
    dsimp only
    by_cases c1 : i = F
    · rw [if_pos c1, if_neg (by omega), if_pos c1]
    · simp only [if_neg c1]
      by_cases c2 : F + 1 ≤ i ∧ i < F + W
      · rw [if_pos c2, if_pos (by omega), hf _ (by omega)]
        exact congrArg (sr_f M W) (by omega)
      · rw [if_neg c2, if_neg (by omega)]
theorem ys_num {post : SY → Prop} (hj : j < 12) (R : it_R kd pl wd tm dg dc ss pc ln sn sd j K A W T D B S L) (hK : K = 1) (he : 1 ≤ e) (he2 : e ≤ T) (hm : m < 9000000000000000000) (hh : has ≤ 9) (hs : s = true → 0 < m)
    (h : post (cn, fp, ck, pf, hr, sp, ix, sc, ye, sz, yj, ys_x st (A + (e - 1) * W) S L (bl_f s (ys_g m has B L) L) (ys_o m has B L), kd, pl, ln, dc, tm, sn, sd, op, ox, oy, oz, sh, ch, sg_put oth 0 0 L (ys_o m has B L), lw, hg, le, bk, fm, vy)) : wpY_store post (cn, fp, ck, pf, hr, sp, ix, sc, ye, sz, yj, st, kd, pl, ln, dc, tm, sn, sd, op, ox, oy, oz, sh, ch, oth, lw, hg, le, bk, fm, vy) (nI j) (nI e) (ar_l (ar_s s m)) (nI has) := by
  have R0 := R
  obtain ⟨⟨r1, r2, r3, r4, r5, r6, r7, r8⟩, ⟨k1, k2, k3, k4, k5, k6, k7, k8, k9, k10, k11⟩, q1, q2, -⟩ := R0
  subst hK
  obtain ⟨qa, qb, qc, qd⟩ := q1 rfl
  have hF : A + (e - 1) * W + W ≤ 96 := it_F k8 he he2
  have v : vp_in (nI j) 12 := vp_in_nI hj (by decide)
  unfold wpY_store
  refine yi_spot hj R he ?_
  generalize A + (e - 1) * W = F at *
  refine ⟨v, ?_⟩
  rw [nI_clamp (show j < 2 ^ 31 by omega), r1]
  refine br_f (by decide) ⟨1, br_t (by decide) ⟨v, ?_⟩⟩
  rw [nI_clamp (show j < 2 ^ 31 by omega), r1, r8]
  refine br_t rfl ⟨v, nm_e ⟨L + 1, ys_digL hj r6 (by omega) (by omega) hm hh hs (fun n => ?_) L 0 _ _ _ (by omega) rfl rfl (sg_0 _ _ _ _).symm⟩⟩
  refine br_t (nI_le (Nat.le_refl _) (by omega)) ⟨v, ?_⟩
  rw [nI_clamp (show j < 2 ^ 31 by omega), r1, qd]
  refine br_f (by decide) ⟨v, ?_⟩
  have ho : ∀ i, i < L → sg_put oth 0 0 L (ys_o m has B L) i = ys_o m has B L i := fun i hi => sg_in0 _ _ _ _ (by omega) hi
  unfold ys_x at h
  rcases (show S = 0 ∨ S = 1 by omega) with e0 | e0
  · subst e0
    rw [if_pos rfl] at h
    exact br_t rfl ⟨L + 1, ys_putL hj qd (by omega) qb (by omega) ho h L 0 _ _ (by omega) rfl (sg_0 _ _ _ _).symm⟩
  · subst e0
    rw [if_neg (by decide)] at h
    refine br_f (by decide) ?_
    rw [nI_clamp (show F < 2 ^ 31 by omega)]
    cases hb : bl_f s (ys_g m has B L) L with
    | false =>
      rw [hb, if_neg (by decide)] at h
      exact br_t rfl ⟨vp_in_nI (by omega) (by decide), nm_e ⟨L + 1, ys_putL hj qd (by omega) qb (by omega) ho h L 0 _ _ (by omega) rfl (sg_0 _ _ _ _).symm⟩⟩
    | true =>
      rw [hb, if_pos rfl] at h
      exact br_f (by decide) ⟨vp_in_nI (by omega) (by decide), nm_e ⟨L + 1, ys_putL hj qd (by omega) qb (by omega) ho h L 0 _ _ (by omega) rfl (sg_0 _ _ _ _).symm⟩⟩
end
