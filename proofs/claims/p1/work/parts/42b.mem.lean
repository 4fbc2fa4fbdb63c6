theorem sa_rJ_ne {J : sa_J} {q k : Nat} {g : Nat → Int64} (h : k ≠ q) : sa_rJ J q g k = J k := by
  unfold sa_rJ
  cases hb : Nat.beq k q with
  | false => rfl
  | true => exact absurd (Nat.eq_of_beq_eq_true hb) h
theorem sa_rI_ne {I : sa_I} {q k : Nat} {g : Nat → Int32} (h : k ≠ q) : sa_rI I q g k = I k := by
  unfold sa_rI
  cases hb : Nat.beq k q with
  | false => rfl
  | true => exact absurd (Nat.eq_of_beq_eq_true hb) h
theorem sa_rJ_eq {J : sa_J} {q : Nat} {g : Nat → Int64} : sa_rJ J q g q = g := by
  unfold sa_rJ
  cases hb : Nat.beq q q with
  | true => rfl
  | false => rw [Nat.beq_refl] at hb; cases hb
theorem sa_rI_eq {I : sa_I} {q : Nat} {g : Nat → Int32} : sa_rI I q g q = g := by
  unfold sa_rI
  cases hb : Nat.beq q q with
  | true => rfl
  | false => rw [Nat.beq_refl] at hb; cases hb
theorem sa_uJ_ne {J : sa_J} {q i k : Nat} {x : Int64} (h : k ≠ q) : sa_uJ J q i x k = J k := sa_rJ_ne h
theorem sa_uI_ne {I : sa_I} {q i k : Nat} {x : Int32} (h : k ≠ q) : sa_uI I q i x k = I k := sa_rI_ne h
theorem sa_uJ_at {J : sa_J} {q i : Nat} {x : Int64} : sa_uJ J q i x q i = x := by unfold sa_uJ; rw [sa_rJ_eq]; simp [vp_updL]
theorem sa_uJ_off {J : sa_J} {q i j : Nat} {x : Int64} (h : j ≠ i) : sa_uJ J q i x q j = J q j := by unfold sa_uJ; rw [sa_rJ_eq]; simp [vp_updL, h]
theorem sa_uI_at {I : sa_I} {q i : Nat} {x : Int32} : sa_uI I q i x q i = x := by unfold sa_uI; rw [sa_rI_eq]; simp [upd]
theorem sa_uI_off {I : sa_I} {q i j : Nat} {x : Int32} (h : j ≠ i) : sa_uI I q i x q j = I q j := by unfold sa_uI; rw [sa_rI_eq]; simp [upd, h]
