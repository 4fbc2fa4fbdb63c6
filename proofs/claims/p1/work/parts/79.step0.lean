section ST
variable {l : Launch} {D : va_G} {aI aL : ClassId} {ad ad' : Nat → Nat} {I I' : sa_I} {J J' : sa_J} {N : sa_I → sa_J → sa_I → sa_J → Prop} {a1 a2 a3 : Int32}
/-- a call where there is no field -/
theorem st_none (h : I 4 0 = 0) (h' : I' 0 1 = 0) (hN : N (rf I 3) J (rf I' 3) J') : ∀ k, 2 ≤ k → k ≤ 25 → la_Step l D aI aL ad ad' N k a1 a2 a3 I J I' J'
  | 2, _, _ => ⟨_, _, r0_X6_field h, r0_X7_field h', fun r1 I1 J1 r2 I2 J2 p q => by obtain ⟨rfl, rfl, rfl⟩ := p; obtain ⟨rfl, rfl, rfl⟩ := q; exact ⟨⟨_, rfl, rfl⟩, hN⟩⟩
  | 3, _, _ => ⟨_, _, r0_X6_disc h, r0_X7_disc h', fun r1 I1 J1 r2 I2 J2 p q => by obtain ⟨rfl, rfl, rfl⟩ := p; obtain ⟨rfl, rfl, rfl⟩ := q; exact ⟨⟨_, rfl, rfl⟩, hN⟩⟩
  | 4, _, _ => ⟨_, _, r0_X6_basis h, r0_X7_basis h', fun r1 I1 J1 r2 I2 J2 p q => by obtain ⟨rfl, rfl, rfl⟩ := p; obtain ⟨rfl, rfl, rfl⟩ := q; exact ⟨⟨_, rfl, rfl⟩, hN⟩⟩
  | 5, _, _ => ⟨_, _, r0_X6_table h, r0_X7_table h', fun r1 I1 J1 r2 I2 J2 p q => by obtain ⟨rfl, rfl, rfl⟩ := p; obtain ⟨rfl, rfl, rfl⟩ := q; exact ⟨⟨_, rfl, rfl⟩, hN⟩⟩
  | 6, _, _ => ⟨_, _, r0_X6_element h, r0_X7_element h', fun r1 I1 J1 r2 I2 J2 p q => by obtain ⟨rfl, rfl, rfl⟩ := p; obtain ⟨rfl, rfl, rfl⟩ := q; exact ⟨⟨_, rfl, rfl⟩, hN⟩⟩
  | 7, _, _ => ⟨_, _, r0_X6_make h, r0_X7_make h', fun r1 I1 J1 r2 I2 J2 p q => by obtain ⟨rfl, rfl, rfl⟩ := p; obtain ⟨rfl, rfl, rfl⟩ := q; exact ⟨⟨_, rfl, rfl⟩, hN⟩⟩
  | 8, _, _ => ⟨_, _, r0_X6_coordinate h, r0_X7_coordinate h', fun r1 I1 J1 r2 I2 J2 p q => by obtain ⟨rfl, rfl, rfl⟩ := p; obtain ⟨rfl, rfl, rfl⟩ := q; exact ⟨⟨_, rfl, rfl⟩, hN⟩⟩
  | 9, _, _ => ⟨_, _, r0_X6_norm h, r0_X7_norm h', fun r1 I1 J1 r2 I2 J2 p q => by obtain ⟨rfl, rfl, rfl⟩ := p; obtain ⟨rfl, rfl, rfl⟩ := q; exact ⟨⟨_, rfl, rfl⟩, hN⟩⟩
  | 10, _, _ => ⟨_, _, r0_X6_unit h, r0_X7_unit h', fun r1 I1 J1 r2 I2 J2 p q => by obtain ⟨rfl, rfl, rfl⟩ := p; obtain ⟨rfl, rfl, rfl⟩ := q; exact ⟨⟨_, rfl, rfl⟩, hN⟩⟩
  | 11, _, _ => ⟨_, _, r0_X6_ideal h, r0_X7_ideal h', fun r1 I1 J1 r2 I2 J2 p q => by obtain ⟨rfl, rfl, rfl⟩ := p; obtain ⟨rfl, rfl, rfl⟩ := q; exact ⟨⟨_, rfl, rfl⟩, hN⟩⟩
  | 12, _, _ => ⟨_, _, r0_X6_join h, r0_X7_join h', fun r1 I1 J1 r2 I2 J2 p q => by obtain ⟨rfl, rfl, rfl⟩ := p; obtain ⟨rfl, rfl, rfl⟩ := q; exact ⟨⟨_, rfl, rfl⟩, hN⟩⟩
  | 13, _, _ => ⟨_, _, r0_X6_row h, r0_X7_row h', fun r1 I1 J1 r2 I2 J2 p q => by obtain ⟨rfl, rfl, rfl⟩ := p; obtain ⟨rfl, rfl, rfl⟩ := q; exact ⟨⟨_, rfl, rfl⟩, hN⟩⟩
  | 14, _, _ => ⟨_, _, r0_X6_idealOf h, r0_X7_idealOf h', fun r1 I1 J1 r2 I2 J2 p q => by obtain ⟨rfl, rfl, rfl⟩ := p; obtain ⟨rfl, rfl, rfl⟩ := q; exact ⟨⟨_, rfl, rfl⟩, hN⟩⟩
  | 15, _, _ => ⟨_, _, r0_X6_in h, r0_X7_in h', fun r1 I1 J1 r2 I2 J2 p q => by obtain ⟨rfl, rfl, rfl⟩ := p; obtain ⟨rfl, rfl, rfl⟩ := q; exact ⟨⟨_, rfl, rfl⟩, hN⟩⟩
  | 16, _, _ => ⟨_, _, r0_X6_divides h, r0_X7_divides h', fun r1 I1 J1 r2 I2 J2 p q => by obtain ⟨rfl, rfl, rfl⟩ := p; obtain ⟨rfl, rfl, rfl⟩ := q; exact ⟨⟨_, rfl, rfl⟩, hN⟩⟩
  | 17, _, _ => ⟨_, _, r0_X6_primes h, r0_X7_primes h', fun r1 I1 J1 r2 I2 J2 p q => by obtain ⟨rfl, rfl, rfl⟩ := p; obtain ⟨rfl, rfl, rfl⟩ := q; exact ⟨⟨_, rfl, rfl⟩, hN⟩⟩
  | 18, _, _ => ⟨_, _, r0_X6_prime h, r0_X7_prime h', fun r1 I1 J1 r2 I2 J2 p q => by obtain ⟨rfl, rfl, rfl⟩ := p; obtain ⟨rfl, rfl, rfl⟩ := q; exact ⟨⟨_, rfl, rfl⟩, hN⟩⟩
  | 19, _, _ => ⟨_, _, r0_X6_take h, r0_X7_take h', fun r1 I1 J1 r2 I2 J2 p q => by obtain ⟨rfl, rfl, rfl⟩ := p; obtain ⟨rfl, rfl, rfl⟩ := q; exact ⟨⟨_, rfl, rfl⟩, hN⟩⟩
  | 20, _, _ => ⟨_, _, r0_X6_times h, r0_X7_times h', fun r1 I1 J1 r2 I2 J2 p q => by obtain ⟨rfl, rfl, rfl⟩ := p; obtain ⟨rfl, rfl, rfl⟩ := q; exact ⟨⟨_, rfl, rfl⟩, hN⟩⟩
  | 21, _, _ => ⟨_, _, r0_X6_classes h, r0_X7_classes h', fun r1 I1 J1 r2 I2 J2 p q => by obtain ⟨rfl, rfl, rfl⟩ := p; obtain ⟨rfl, rfl, rfl⟩ := q; exact ⟨⟨_, rfl, rfl⟩, hN⟩⟩
  | 22, _, _ => ⟨_, _, r0_X6_form h, r0_X7_form h', fun r1 I1 J1 r2 I2 J2 p q => by obtain ⟨rfl, rfl, rfl⟩ := p; obtain ⟨rfl, rfl, rfl⟩ := q; exact ⟨⟨_, rfl, rfl⟩, hN⟩⟩
  | 23, _, _ => ⟨_, _, r0_X6_classOf h, r0_X7_classOf h', fun r1 I1 J1 r2 I2 J2 p q => by obtain ⟨rfl, rfl, rfl⟩ := p; obtain ⟨rfl, rfl, rfl⟩ := q; exact ⟨⟨_, rfl, rfl⟩, hN⟩⟩
  | 24, _, _ => ⟨_, _, r0_X6_order h, r0_X7_order h', fun r1 I1 J1 r2 I2 J2 p q => by obtain ⟨rfl, rfl, rfl⟩ := p; obtain ⟨rfl, rfl, rfl⟩ := q; exact ⟨⟨_, rfl, rfl⟩, hN⟩⟩
  | 25, _, _ => ⟨_, _, r0_X6_first h, r0_X7_first h', fun r1 I1 J1 r2 I2 J2 p q => by obtain ⟨rfl, rfl, rfl⟩ := p; obtain ⟨rfl, rfl, rfl⟩ := q; exact ⟨⟨_, rfl, rfl⟩, hN⟩⟩
  | 0, h, _ => absurd h (by omega)
  | 1, h, _ => absurd h (by omega)
  | k + 26, _, h => absurd h (by omega)
theorem st_count (h1 : I 0 8 = I' 0 13) (h2 : I 0 9 = I' 0 14) (h3 : ∀ j, I 1 j = I' 1 j) (hN : N I J I' J') : la_Step l D aI aL ad ad' N 26 a1 a2 a3 I J I' J' := by
  obtain ⟨x, hx, rfl⟩ := iI_of a1
  refine ⟨_, _, c_count6 hx, c_count7 hx, fun r1 I1 J1 r2 I2 J2 p q => ?_⟩
  obtain ⟨rfl, rfl, rfl⟩ := p
  obtain ⟨rfl, rfl, rfl⟩ := q
  refine ⟨⟨_, rfl, ?_⟩, hN⟩
  rw [h1, h2, show I1 1 = I2 1 from funext h3]
theorem hw7_iff {a b c : Int} : ∀ (f : Nat) (x : Int), hw7 a b c f x = true ↔ ∃ y, x ≤ y ∧ y < x + f ∧ y * y * y + a * y * y + b * y + c = 0 := by
  intro f
  induction f with
  | zero => intro x; exact ⟨fun h => by simp [hw7] at h, fun ⟨y, h1, h2, _⟩ => by omega⟩
  | succ f ih =>
    intro x
    unfold hw7
    by_cases q : x * x * x + a * x * x + b * x + c = 0
    · rw [if_pos q]; exact ⟨fun _ => ⟨x, by omega, by omega, q⟩, fun _ => rfl⟩
    · rw [if_neg q, ih (x + 1)]
      constructor
      · rintro ⟨y, h1, h2, h3⟩; exact ⟨y, by omega, by omega, h3⟩
      · rintro ⟨y, h1, h2, h3⟩
        refine ⟨y, ?_, by omega, h3⟩
        rcases Int.lt_or_eq_of_le h1 with r | r
        · omega
        · subst r; exact absurd h3 q
theorem hwF_iff {a b c : Int} (ha : bd a 3) (hb : bd b 9) (hc : bd c 9) : ∀ (f : Nat) (x : Int), -9 ≤ x → x + f ≤ 10 → (hwF (iI a) (iI b) (iI c) f x = true ↔ ∃ y, x ≤ y ∧ y < x + f ∧ y * y * y + a * y * y + b * y + c = 0) := by
  intro f
  induction f with
  | zero => intro x _ _; exact ⟨fun h => by simp [hwF] at h, fun ⟨y, h1, h2, _⟩ => by omega⟩
  | succ f ih =>
    intro x h0 h9
    have bx : bd x 9 := ⟨by omega, by omega⟩
    have hv : bd (x * x * x + a * x * x + b * x + c) 100000 := bd_mono (bd_add (bd_add (bd_add (bd_mul (bd_mul bx bx) bx) (bd_mul (bd_mul ha bx) bx)) (bd_mul hb bx)) hc) (by decide)
    have e1 : ((x + a) * x + b) * x + c = x * x * x + a * x * x + b * x + c := by rw [Int.add_mul, Int.add_mul, Int.add_mul]
    have e2 : (((iI x + iI a) * iI x + iI b) * iI x + iI c = 0) ↔ (x * x * x + a * x * x + b * x + c = 0) := by
      simp only [iI_add, iI_mul]; rw [e1]; exact iI_eq (bd_i hv (by decide)) (b := 0) ⟨by omega, by omega⟩
    unfold hwF
    by_cases q : x * x * x + a * x * x + b * x + c = 0
    · rw [if_pos (e2.mpr q)]; exact ⟨fun _ => ⟨x, by omega, by omega, q⟩, fun _ => rfl⟩
    · rw [if_neg (fun r => q (e2.mp r)), ih (x + 1) (by omega) (by omega)]
      constructor
      · rintro ⟨y, h1, h2, h3⟩; exact ⟨y, by omega, by omega, h3⟩
      · rintro ⟨y, h1, h2, h3⟩
        refine ⟨y, ?_, by omega, h3⟩
        rcases Int.lt_or_eq_of_le h1 with r | r
        · omega
        · subst r; exact absurd h3 q
theorem hw_eq {a b c : Int} (ha : bd a 3) (hb : bd b 9) (hc : bd c 9) : hwF (iI a) (iI b) (iI c) 19 (-9) = hw7 a b c 41 (-20) := by
  rw [Bool.eq_iff_iff, hwF_iff ha hb hc 19 (-9) (by decide) (by decide), hw7_iff]
  have a1 := ha.1
  have a2 := ha.2
  have b1 := hb.1
  have b2 := hb.2
  have c1 := hc.1
  have c2 := hc.2
  constructor
  · rintro ⟨y, h1, h2, h3⟩; exact ⟨y, by omega, by omega, h3⟩
  · rintro ⟨y, h1, h2, h3⟩
    refine ⟨y, ?_, ?_, h3⟩
    · rcases Int.lt_or_le y (-9) with r | r
      · exfalso
        have : y = -10 ∨ y = -11 ∨ y = -12 ∨ y = -13 ∨ y = -14 ∨ y = -15 ∨ y = -16 ∨ y = -17 ∨ y = -18 ∨ y = -19 ∨ y = -20 := by omega
        rcases this with rfl | rfl | rfl | rfl | rfl | rfl | rfl | rfl | rfl | rfl | rfl <;> omega
      · exact r
    · rcases Int.lt_or_le y 10 with r | r
      · omega
      · exfalso
        have : y = 10 ∨ y = 11 ∨ y = 12 ∨ y = 13 ∨ y = 14 ∨ y = 15 ∨ y = 16 ∨ y = 17 ∨ y = 18 ∨ y = 19 ∨ y = 20 := by omega
        rcases this with rfl | rfl | rfl | rfl | rfl | rfl | rfl | rfl | rfl | rfl | rfl <;> omega
end ST
