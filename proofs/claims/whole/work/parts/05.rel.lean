/-! what a checked program keeps to, the frames of a run, what holds between two calls -/
def ft_i (kd : Nat → Int32) (x : Int32) : Prop := ∃ j, j < 12 ∧ x = nI j ∧ ¬ kd j = 0
def ft_s (kd : Nat → Int32) (x s : Int32) : Prop := ∃ j, j < 12 ∧ x = nI j ∧ kd j = s
def ft_c (kd : Nat → Int32) (x : Int32) : Prop := ft_s kd x 1 ∨ ft_s kd x 2
/-- the operands of one instruction fit: o its code, np the number of paragraphs -/
def ft_G (kd : Nat → Int32) (np : Nat) (o : Nat) (x y z : Int32) : Prop :=
  (o = 1 → (x = 16 ∨ ft_i kd x) ∧ ft_i kd y) ∧
  (2 ≤ o → o ≤ 9 → (x = 16 ∨ ft_s kd x 1) ∧ ft_s kd y 1) ∧
  (o = 10 → ft_c kd x ∧ ft_c kd y ∧ ∃ q, q ≤ 5 ∧ z = nI q) ∧
  (o = 12 → ft_c kd x) ∧
  (o = 15 ∨ o = 16 → ∃ a b, x = nI a ∧ y = nI b ∧ a ≤ b ∧ b < np) ∧
  (o = 17 → ∃ a, x = nI a ∧ a < np) ∧
  (o = 19 → x = 16 ∨ ft_i kd x) ∧
  (o = 20 → x = 16 ∨ ft_s kd x 1) ∧
  (o = 22 → ft_i kd x ∧ ft_s kd y 1)
def rl_J (op jp : Nat → Int32) (n : Nat) : Prop := ∀ j, j < n → ck_o (op j) → ∃ e, e < n ∧ pw_P op j e ∧ jp j = nI (e + 1)
def rl_P (op ox oy oz kd ps jp : Nat → Int32) (n : Nat) : Prop :=
  1 ≤ n ∧ op 0 = 0 ∧ tb_P op n ps ∧ (∀ i, i < n → ∃ o, o ≤ 22 ∧ op i = nI o ∧ ft_G kd (tb_z op n) o (ox i) (oy i) (oz i)) ∧ rl_J op jp n
def rl_R (cn ck sz : Int32) (st kd pl wd tm dg dc ss pc ln sn sd op ox oy oz ps jp : Nat → Int32) : Prop :=
  st_ok st ∧ it_A kd pl wd tm dg dc ss pc ln sn sd ∧ (∃ n, n ≤ 48 ∧ cn = nI n ∧ (∀ j, j < n → ∃ o, o ≤ 22 ∧ op j = nI o) ∧ (ck = 1 → rl_P op ox oy oz kd ps jp n)) ∧ (ck = 0 ∨ ck = 1) ∧ (sz = 0 ∨ sz = 1)
/-- the performs that run: p frames -/
def rn_1 (op ox oy oz pa pt lw hg le bk fm vy : Nat → Int32) (n t : Nat) : Prop :=
  ∃ i τ ζ, i < n ∧ (op i = 15 ∨ op i = 16) ∧ pa t = nI i ∧ pt t = nI τ ∧ oz i = nI ζ ∧ 1 ≤ τ ∧ τ ≤ ζ ∧ ζ < 2 ^ 31 ∧
    lw t = ox i ∧ hg t = oy i ∧ le t = nI (ζ - τ + 1) ∧ bk t = nI (i + 1) ∧ fm t = nI τ ∧ vy t = (if op i = 16 then 1 else 0)
def rn_F (op ox oy oz pa pt lw hg le bk fm vy : Nat → Int32) (n p : Nat) : Prop := ∀ t, t < p → rn_1 op ox oy oz pa pt lw hg le bk fm vy n t
section
variable {op ox oy oz pa pt lw hg le bk fm vy pa' pt' lw' hg' le' bk' fm' vy' : Nat → Int32} {n p : Nat}
theorem rn_1c {t : Nat} (h : rn_1 op ox oy oz pa pt lw hg le bk fm vy n t) (e1 : pa' t = pa t) (e2 : pt' t = pt t) (e3 : lw' t = lw t) (e4 : hg' t = hg t) (e5 : le' t = le t) (e6 : bk' t = bk t) (e7 : fm' t = fm t) (e8 : vy' t = vy t) : rn_1 op ox oy oz pa' pt' lw' hg' le' bk' fm' vy' n t := by
  unfold rn_1 at *
  rw [e1, e2, e3, e4, e5, e6, e7, e8]
  exact h
theorem rn_0 : rn_F op ox oy oz pa pt lw hg le bk fm vy n 0 := fun t h => absurd h (by omega)
theorem rn_push {i ζ : Nat} {b1 b2 b3 b4 b5 b6 b7 b8 : Int32} (h : rn_F op ox oy oz pa pt lw hg le bk fm vy n p) (hi : i < n) (ho : op i = 15 ∨ op i = 16) (hz : oz i = nI ζ) (h1 : 1 ≤ ζ) (h2 : ζ < 2 ^ 31)
    (e1 : b1 = nI i) (e2 : b2 = nI 1) (e3 : b3 = ox i) (e4 : b4 = oy i) (e5 : b5 = oz i) (e6 : b6 = nI (i + 1)) (e7 : b7 = nI 1) (e8 : b8 = if op i = 16 then 1 else 0) :
    rn_F op ox oy oz (upd pa p b1) (upd pt p b2) (upd lw p b3) (upd hg p b4) (upd le p b5) (upd bk p b6) (upd fm p b7) (upd vy p b8) n (p + 1) := by
  intro t ht
  by_cases e : t = p
  · subst e
    exact ⟨i, 1, ζ, hi, ho, pk_us.trans e1, pk_us.trans e2, hz, by omega, h1, h2, pk_us.trans e3, pk_us.trans e4, pk_us.trans (e5.trans (hz.trans (by rw [show ζ - 1 + 1 = ζ from by omega]))), pk_us.trans e6, pk_us.trans e7, pk_us.trans e8⟩
  · exact rn_1c (h t (by omega)) (pk_un e) (pk_un e) (pk_un e) (pk_un e) (pk_un e) (pk_un e) (pk_un e) (pk_un e)
theorem rn_pop {b5 : Int32} (h : rn_F op ox oy oz pa pt lw hg le bk fm vy n (p + 1)) : rn_F op ox oy oz pa pt lw hg (upd le p b5) bk fm vy n p := by
  intro t ht
  have e : t ≠ p := by omega
  exact rn_1c (h t (by omega)) rfl rfl rfl rfl (pk_un e) rfl rfl rfl
theorem rn_next {i τ ζ : Nat} {b2 b5 b7 : Int32} (h : rn_F op ox oy oz pa pt lw hg le bk fm vy n (p + 1)) (hi : i < n) (ho : op i = 15 ∨ op i = 16) (h3 : pa p = nI i) (hz : oz i = nI ζ) (h1 : 1 ≤ τ) (h2 : τ < ζ) (h4 : ζ < 2 ^ 31)
    (g1 : lw p = ox i) (g2 : hg p = oy i) (g3 : bk p = nI (i + 1)) (g4 : vy p = if op i = 16 then 1 else 0) (e2 : b2 = nI (τ + 1)) (e5 : b5 = nI (ζ - τ)) (e7 : b7 = nI (τ + 1)) :
    rn_F op ox oy oz pa (upd pt p b2) lw hg (upd le p b5) bk (upd fm p b7) vy n (p + 1) := by
  intro t ht
  by_cases e : t = p
  · subst e
    exact ⟨i, τ + 1, ζ, hi, ho, h3, pk_us.trans e2, hz, by omega, by omega, h4, g1, g2, pk_us.trans (e5.trans (by rw [show ζ - (τ + 1) + 1 = ζ - τ from by omega])), g3, pk_us.trans e7, g4⟩
  · exact rn_1c (h t (by omega)) rfl (pk_un e) rfl rfl (pk_un e) rfl (pk_un e) rfl
end
