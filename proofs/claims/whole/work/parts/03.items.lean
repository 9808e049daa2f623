/-! items: a picture's signs, what both sides keep of an item, where the one lies that INDEX says -/
def pi_s (p : Int32) (L k : Nat) : Int32 := (p >>> ((3 * ((nI L - 1) - nI k)) &&& 31)) &&& 7
/-- how many of the first n signs stand for a digit -/
def pi_c (p : Int32) (L : Nat) : Nat → Nat
  | 0 => 0
  | n + 1 => pi_c p L n + (if pi_s p L n < 4 then 1 else 0)
theorem pi_cs {p : Int32} {L n : Nat} (h : pi_s p L n < 4) : pi_c p L (n + 1) = pi_c p L n + 1 := by
  show pi_c p L n + (if pi_s p L n < 4 then 1 else 0) = _
  rw [if_pos h]
theorem pi_cn {p : Int32} {L n : Nat} (h : ¬ pi_s p L n < 4) : pi_c p L (n + 1) = pi_c p L n := by
  show pi_c p L n + (if pi_s p L n < 4 then 1 else 0) = _
  rw [if_neg h, Nat.add_zero]
theorem pi_le (p : Int32) (L : Nat) : ∀ n, pi_c p L n ≤ n
  | 0 => Nat.le_refl _
  | n + 1 => by
    have := pi_le p L n
    by_cases h : pi_s p L n < 4
    · rw [pi_cs h]; omega
    · rw [pi_cn h]; omega
theorem pi_mono (p : Int32) (L : Nat) {i j : Nat} (h : i ≤ j) : pi_c p L i ≤ pi_c p L j := by
  induction h with
  | refl => exact Nat.le_refl _
  | step _ ih => exact Nat.le_trans ih (Nat.le_add_right _ _)
theorem pi_v (p : Int32) (L k : Nat) : ∃ s, s < 8 ∧ pi_s p L k = nI s := pk_andE _ 3 (by decide)
section
variable (kd pl wd tm dg dc ss pc ln sn sd : Nat → Int32)
def it_R (j K A W T D B S L : Nat) : Prop :=
  (kd j = nI K ∧ pl j = nI A ∧ wd j = nI W ∧ tm j = nI T ∧ dg j = nI D ∧ dc j = nI B ∧ ss j = nI S ∧ ln j = nI L) ∧
  (1 ≤ K ∧ K ≤ 3 ∧ 1 ≤ T ∧ T ≤ 9 ∧ 1 ≤ L ∧ L ≤ 12 ∧ W = L + S ∧ A + W * T ≤ 96 ∧ S ≤ 1 ∧ B ≤ 9 ∧ D ≤ 9) ∧
  (K = 1 → D = L ∧ L ≤ 9 ∧ B ≤ L ∧ sd j = nI S) ∧ (K ≠ 1 → S = 0) ∧
  (K = 3 → L ≤ 8 ∧ D = pi_c (pc j) L L ∧ 1 ≤ D ∧ ∀ k, k < L → sn (8 * j + k) = pi_s (pc j) L k ∧ pi_s (pc j) L k ≠ 0)
def it_A : Prop := ∀ j, j < 12 → kd j = 0 ∨ ∃ K A W T D B S L, it_R kd pl wd tm dg dc ss pc ln sn sd j K A W T D B S L
end
/-- INDEX picks the e-th of T -/
def it_X (ix : Int32) (T e : Nat) : Prop := 1 ≤ e ∧ e ≤ T ∧ (T = 1 ∨ ix = nI e)
theorem it_F {A W T e : Nat} (h : A + W * T ≤ 96) (h1 : 1 ≤ e) (h2 : e ≤ T) : A + (e - 1) * W + W ≤ 96 := by
  obtain ⟨c, rfl⟩ : ∃ c, e = c + 1 := ⟨e - 1, by omega⟩
  have : (c + 1) * W ≤ T * W := Nat.mul_le_mul_right W h2
  rw [Nat.add_mul, Nat.one_mul] at this
  rw [Nat.mul_comm W T] at h
  rw [Nat.add_sub_cancel]
  omega
