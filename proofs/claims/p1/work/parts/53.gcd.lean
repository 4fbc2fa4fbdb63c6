section GC
variable {E : sa_E} {P : sa_P} {I : sa_I} {J : sa_J}
theorem g7_loop : ∀ (f y x : Nat), y < f → (x : Int) < 9223372036854775808 → (y : Int) < 9223372036854775808 → P (some (.long (lI (Nat.gcd x y : Nat)))) I J → Sat E M_X7_gcd P 12 [(4, .long (lI x)), (6, .long (lI y))] [] I J := by
  intro f
  induction f with
  | zero => intro y x h; exact absurd h (Nat.not_lt_zero y)
  | succ f ih =>
    intro y x hy hx hy2 hp
    have rx : rg (x : Int) := ⟨by omega, hx⟩
    have ry : rg (y : Int) := ⟨by omega, hy2⟩
    refine bX7_gcd_12 (fun c => ?_) (fun c => ?_)
    · have c := (lI_eq ry (b := 0) ⟨by omega, by omega⟩).mp c
      obtain rfl : y = 0 := by omega
      rw [Nat.gcd_zero_right] at hp
      exact bX7_gcd_37 hp
    · have c0 : y ≠ 0 := fun q => c (by subst q; rfl)
      have hm : x % y < y := Nat.mod_lt x (by omega)
      refine bX7_gcd_19 (v24 := lI ((x % y : Nat) : Int)) c ?_ (ih (x % y) y (by omega) hy2 (by omega) ?_)
      · rw [lI_rem rx ry (by omega), Int.tmod_eq_emod_of_nonneg (by omega)]; rfl
      · rw [(Nat.gcd_comm y (x % y)), ← Nat.gcd_rec y x, Nat.gcd_comm y x]; exact hp
theorem c_gcd7 {a b : Int} (ha : rg a) (hb : rg b) (ha0 : a ≠ -9223372036854775808) (hb0 : b ≠ -9223372036854775808) : Con E M_X7_gcd yX7_gcd [.long (lI a), .long (lI b)] I J (p_l (lI (Int.gcd a b : Nat)) I J) := by
  refine Con.of (by decide +kernel) rfl (Nat.le_of_ble_eq_true rfl) ?_
  have h1 := ha.1
  have h2 := ha.2
  have h3 := hb.1
  have h4 := hb.2
  refine bX7_gcd_0 (v_X7_90 dX7_gcd_1 rfl ⟨rfl, rfl, Nat.le_of_ble_eq_true rfl, Nat.le_of_ble_eq_true rfl⟩ (c_abs ha ha0) rfl rfl (Nat.le_of_ble_eq_true rfl) (fun r I1 J1 hp => ?_))
  obtain ⟨rfl, rfl, rfl⟩ := hp
  refine bX7_gcd_4 (v_X7_90 dX7_gcd_7 rfl ⟨rfl, rfl, Nat.le_of_ble_eq_true rfl, Nat.le_of_ble_eq_true rfl⟩ (c_abs hb hb0) rfl rfl (Nat.le_of_ble_eq_true rfl) (fun r I1 J1 hp => ?_))
  obtain ⟨rfl, rfl, rfl⟩ := hp
  exact bX7_gcd_10 (g7_loop (b.natAbs + 1) b.natAbs a.natAbs (by omega) (by omega) (by omega) ⟨rfl, rfl, rfl⟩)
end GC
