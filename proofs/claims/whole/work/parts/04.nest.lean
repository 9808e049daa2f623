/-! checking: the IFs that are open at instruction i, and where those jump that are closed -/
def ck_o (o : Int32) : Prop := pw_i o ∨ o = 13
def ck_S (op oi : Nat → Int32) (o i : Nat) : Prop := ∀ t, t < o → ∃ b, b < i ∧ oi t = nI b ∧ ck_o (op b) ∧ pw_W op (i - (b + 1)) 0 (b + 1) (o - 1 - t)
def ck_J (op oi jp : Nat → Int32) (o i : Nat) : Prop := ∀ j, j < i → ck_o (op j) → (∃ t, t < o ∧ oi t = nI j) ∨ ∃ e, e < i ∧ pw_P op j e ∧ jp j = nI (e + 1)
theorem ck_S0 (op oi : Nat → Int32) : ck_S op oi 0 0 := fun t h => absurd h (by omega)
theorem ck_J0 (op oi jp : Nat → Int32) : ck_J op oi jp 0 0 := fun t h => absurd h (by omega)
/-- one step further, for a depth at which the walk does not stop -/
theorem ck_w {op : Nat → Int32} {b i d : Nat} (hb : b < i) (h : pw_W op (i - (b + 1)) 0 (b + 1) d) (hs : ¬ pw_st d (op i)) : pw_W op (i + 1 - (b + 1)) 0 (b + 1) (pw_d d (op i)) := by
  have e : b + 1 + (i - (b + 1)) = i := by omega
  have e2 : i + 1 - (b + 1) = i - (b + 1) + 1 := by omega
  have := pw_sn op (i - (b + 1)) 0 (b + 1) d h (by rw [e]; exact hs)
  rw [e] at this
  rw [e2]
  exact this
theorem ck_Sa {op oi : Nat → Int32} {o i : Nat} (h : ck_S op oi o i) (h1 : ¬ pw_i (op i)) (h3 : op i ≠ 13) (h4 : op i ≠ 14) : ck_S op oi o (i + 1) := by
  intro t ht
  obtain ⟨b, hb, e, hc, hw⟩ := h t ht
  refine ⟨b, by omega, e, hc, ?_⟩
  have := ck_w hb hw (fun z => z.2.elim h3 h4)
  rwa [pw_dn h1 h4] at this
theorem ck_Ja {op oi jp : Nat → Int32} {o i : Nat} (h : ck_J op oi jp o i) (h1 : ¬ pw_i (op i)) (h3 : op i ≠ 13) : ck_J op oi jp o (i + 1) := by
  intro j hj ho
  by_cases e : j = i
  · subst e
    exact (ho.elim h1 h3).elim
  · rcases h j (by omega) ho with q | ⟨e, h1, h2⟩
    · exact Or.inl q
    · exact Or.inr ⟨e, by omega, h2⟩
theorem ck_Si {op oi : Nat → Int32} {o i : Nat} (h : ck_S op oi o i) (h1 : pw_i (op i)) : ck_S op (upd oi o (nI i)) (o + 1) (i + 1) := by
  intro t ht
  by_cases e : t = o
  · subst e
    refine ⟨i, by omega, pk_us, Or.inl h1, ?_⟩
    rw [show i + 1 - (i + 1) = 0 from by omega, show t + 1 - 1 - t = 0 from by omega]
    exact rfl
  · obtain ⟨b, hb, e2, hc, hw⟩ := h t (by omega)
    refine ⟨b, by omega, by rw [pk_un e]; exact e2, hc, ?_⟩
    have hs : ¬ pw_st (o - 1 - t) (op i) := by
      intro z
      rcases h1 with q | q | q <;> rw [q] at z <;> exact absurd z.2 (by decide)
    have := ck_w hb hw hs
    rw [pw_di h1] at this
    rw [show o + 1 - 1 - t = o - 1 - t + 1 from by omega]
    exact this
theorem ck_Ji {op oi jp : Nat → Int32} {o i : Nat} (h : ck_J op oi jp o i) : ck_J op (upd oi o (nI i)) jp (o + 1) (i + 1) := by
  intro j hj ho
  by_cases e : j = i
  · subst e
    exact Or.inl ⟨o, by omega, pk_us⟩
  · rcases h j (by omega) ho with ⟨t, ht, q⟩ | ⟨e, h1, h2⟩
    · exact Or.inl ⟨t, by omega, by rw [pk_un (by omega)]; exact q⟩
    · exact Or.inr ⟨e, by omega, h2⟩
/-- the topmost open one, whose partner is i -/
theorem ck_top {op oi : Nat → Int32} {o i : Nat} (h : ck_S op oi (o + 1) i) (hi : op i = 13 ∨ op i = 14) : ∃ b, b < i ∧ oi o = nI b ∧ ck_o (op b) ∧ pw_P op b i := by
  obtain ⟨b, hb, e, hc, hw⟩ := h o (by omega)
  rw [show o + 1 - 1 - o = 0 from by omega] at hw
  exact ⟨b, hb, e, hc, i - (b + 1), by omega, hw, hi⟩
theorem ck_Se {op oi : Nat → Int32} {o i : Nat} (h : ck_S op oi (o + 1) i) (hi : op i = 13) : ck_S op (upd oi o (nI i)) (o + 1) (i + 1) := by
  intro t ht
  by_cases e : t = o
  · subst e
    refine ⟨i, by omega, pk_us, Or.inr hi, ?_⟩
    rw [show i + 1 - (i + 1) = 0 from by omega, show t + 1 - 1 - t = 0 from by omega]
    exact rfl
  · obtain ⟨b, hb, e2, hc, hw⟩ := h t (by omega)
    refine ⟨b, by omega, by rw [pk_un e]; exact e2, hc, ?_⟩
    have := ck_w hb hw (fun z => absurd z.1 (by omega))
    rw [pw_dn (by rw [hi]; unfold pw_i; decide) (by rw [hi]; decide)] at this
    exact this
theorem ck_Sd {op oi : Nat → Int32} {o i : Nat} (h : ck_S op oi (o + 1) i) (hi : op i = 14) : ck_S op oi o (i + 1) := by
  intro t ht
  obtain ⟨b, hb, e2, hc, hw⟩ := h t (by omega)
  refine ⟨b, by omega, e2, hc, ?_⟩
  have := ck_w hb hw (fun z => absurd z.1 (by omega))
  rw [hi, pw_d14] at this
  rw [show o - 1 - t = o + 1 - 1 - t - 1 from by omega]
  exact this
theorem ck_Je {op oi jp : Nat → Int32} {o i b : Nat} (hn : i < 2 ^ 31) (hb : b < i) (eb : oi o = nI b) (hp : pw_P op b i) (h : ck_J op oi jp (o + 1) i) : ck_J op (upd oi o (nI i)) (upd jp b (nI (i + 1))) (o + 1) (i + 1) := by
  intro j hj ho
  by_cases e : j = i
  · subst e
    exact Or.inl ⟨o, by omega, pk_us⟩
  · by_cases e2 : j = b
    · subst e2
      exact Or.inr ⟨i, by omega, hp, pk_us⟩
    · rcases h j (by omega) ho with ⟨t, ht, q⟩ | ⟨e, h1, h2, h3⟩
      · by_cases e3 : t = o
        · subst e3
          rw [eb, nI_eq (by omega) (by omega)] at q
          exact absurd q.symm e2
        · exact Or.inl ⟨t, by omega, by rw [pk_un e3]; exact q⟩
      · exact Or.inr ⟨e, by omega, h2, by rw [pk_un e2]; exact h3⟩
theorem ck_Jd {op oi jp : Nat → Int32} {o i b : Nat} (hn : i < 2 ^ 31) (hb : b < i) (eb : oi o = nI b) (hp : pw_P op b i) (hi : op i = 14) (h : ck_J op oi jp (o + 1) i) : ck_J op oi (upd jp b (nI (i + 1))) o (i + 1) := by
  intro j hj ho
  by_cases e : j = i
  · subst e
    rw [hi] at ho
    exact absurd ho (by unfold ck_o pw_i; decide)
  · by_cases e2 : j = b
    · subst e2
      exact Or.inr ⟨i, by omega, hp, pk_us⟩
    · rcases h j (by omega) ho with ⟨t, ht, q⟩ | ⟨e, h1, h2, h3⟩
      · by_cases e3 : t = o
        · subst e3
          rw [eb, nI_eq (by omega) (by omega)] at q
          exact absurd q.symm e2
        · exact Or.inl ⟨t, by omega, q⟩
      · exact Or.inr ⟨e, by omega, h2, by rw [pk_un e2]; exact h3⟩
/-- all instructions are through and none is open: every IF and ELSE has its partner and jumps behind it -/
theorem ck_end {op oi jp : Nat → Int32} {n : Nat} (h : ck_J op oi jp 0 n) : ∀ j, j < n → ck_o (op j) → ∃ e, e < n ∧ pw_P op j e ∧ jp j = nI (e + 1) := by
  intro j hj ho
  rcases h j hj ho with ⟨t, ht, _⟩ | q
  · exact absurd ht (by omega)
  · exact q
