/-- what is known of a field -/
def Fld (n : Nat) (h d k l e Di dd : Int) (T : Nat → Int) : Prop := (n = 2 ∨ n = 3) ∧ (1 ≤ d ∧ d ≤ 90 ∧ 0 ≤ h ∧ h < d) ∧ (1 ≤ e ∧ e ≤ 90 ∧ 0 ≤ k ∧ k < e ∧ 0 ≤ l ∧ l < e) ∧ bd Di 12000 ∧ dd * (d * e * d * e) = Di ∧ (n = 2 → e = 1 ∧ k = 0 ∧ l = 0 ∧ ∃ x y, T = T2 x y ∧ bd x 200 ∧ bd y 20 ∧ y * y + 4 * x = dd ∧ psq dd = false) ∧ (n = 3 → ∃ s : Nat → Int, T = T3 s ∧ (∀ t, t < 9 → bd (s t) 40) ∧ asc (s 0) (s 1) (s 2) (s 3) (s 4) (s 5) (s 6) (s 7) (s 8) = true)
theorem Fld.q {n : Nat} {h d k l e Di dd : Int} {T : Nat → Int} (F : Fld n h d k l e Di dd T) : 1 ≤ d * e * d * e ∧ d * e ≤ 8100 ∧ 1 ≤ d * e := by
  obtain ⟨_, ⟨d1, d2, _, _⟩, ⟨e1, e2, _⟩, _⟩ := F
  have h1 : 1 * 1 ≤ d * e := Int.mul_le_mul d1 e1 (by decide) (by omega)
  have h2 : 1 * 1 ≤ d * e * d := Int.mul_le_mul (by omega) d1 (by decide) (by omega)
  have h3 : 1 * 1 ≤ d * e * d * e := Int.mul_le_mul (by omega) e1 (by decide) (by omega)
  have h4 : d * e ≤ 90 * 90 := Int.mul_le_mul d2 e2 (by omega) (by decide)
  exact ⟨by omega, by omega, by omega⟩
theorem Fld.sign {n : Nat} {h d k l e Di dd : Int} {T : Nat → Int} (F : Fld n h d k l e Di dd T) : (Di ≤ 0 ↔ dd ≤ 0) ∧ bd dd 12000 := by
  have hq := F.q.1
  obtain ⟨_, _, _, hb, he, _⟩ := F
  have h1 := hb.1
  have h2 := hb.2
  generalize d * e * d * e = q at *
  subst he
  have k1 : 0 ≤ dd → dd * 1 ≤ dd * q := fun h => Int.mul_le_mul_of_nonneg_left hq h
  have k2 : 0 ≤ -dd → -dd ≤ -(dd * q) := fun h => by
    have h3 := Int.mul_le_mul_of_nonneg_left hq h
    rw [Int.mul_one, Int.neg_mul] at h3
    exact h3
  refine ⟨⟨fun a => ?_, fun a => ?_⟩, ?_⟩
  · by_cases c : dd ≤ 0
    · exact c
    · have := k1 (by omega); omega
  · have := k2 (by omega); omega
  · rcases Int.le_total 0 dd with c | c
    · have := k1 c; exact ⟨by omega, by omega⟩
    · have := k2 (by omega); exact ⟨by omega, by omega⟩
theorem fld_square {a b h d : Int} (a1 : -20 ≤ a) (a2 : a ≤ 20) (b1 : -200 ≤ b) (b2 : b ≤ 200) (hc : fc2 a b h d = true) : Fld 2 h d 0 0 1 (a * a - 4 * b) ((a * a - 4 * b).tdiv (d * d)) (T2 (tbI2 b a h d 0 0 1 1 1).1 (tbI2 b a h d 0 0 1 1 1).2.1) := by
  obtain ⟨hd, _, _, _, _, _, ⟨bx, by'⟩, e1, e2, e3⟩ := fc2_of hc
  have ba : bd a 20 := ⟨by omega, by omega⟩
  have baa := bd_mul ba ba
  have ba1 := baa.1
  have ba2 := baa.2
  refine ⟨Or.inl rfl, hd, ⟨by decide, by decide, by decide, by decide, by decide, by decide⟩, ⟨by omega, by omega⟩, ?_, fun _ => ⟨rfl, rfl, rfl, _, _, rfl, bx, by', e1, e3⟩, fun c => absurd c (by decide)⟩
  rw [Int.mul_one, Int.mul_one]; exact e2
theorem fld_cube {a b c h d k l e : Int} (a1 : -3 ≤ a) (a2 : a ≤ 3) (b1 : -9 ≤ b) (b2 : b ≤ 9) (c1 : -9 ≤ c) (c2 : c ≤ 9) (hc : fc3 a b c h d k l e = true) : Fld 3 h d k l e (pdI a b c) ((pdI a b c).tdiv (d * e * d * e)) (T3 (s9 c b a h d k l e)) := by
  obtain ⟨hd, he, _, _, _, _, hb, has, hq⟩ := fc3_of hc
  have ba : bd a 3 := ⟨by omega, by omega⟩
  have bb : bd b 9 := ⟨by omega, by omega⟩
  have bc : bd c 9 := ⟨by omega, by omega⟩
  have bD : bd (pdI a b c) 12000 := bd_mono (bd_add (bd_sub (bd_sub (bd_sub (bd_mul (bd_mul (bd_mul ba ba) bb) bb) (bd_mul (bd_mul (bd_mul (A := 4) ⟨by decide, by decide⟩ bb) bb) bb)) (bd_mul (bd_mul (bd_mul (bd_mul (A := 4) ⟨by decide, by decide⟩ ba) ba) ba) bc)) (bd_mul (bd_mul (A := 27) ⟨by decide, by decide⟩ bc) bc)) (bd_mul (bd_mul (bd_mul (A := 18) ⟨by decide, by decide⟩ ba) bb) bc)) (by decide)
  exact ⟨Or.inr rfl, hd, he, bD, hq, fun c => absurd c (by decide), fun _ => ⟨_, rfl, hb, has⟩⟩
section S1
variable {l0 : Launch} {D : va_G} {aI aL : ClassId} {ad ad' : Nat → Nat} {I I' : sa_I} {J J' : sa_J} {N : sa_I → sa_J → sa_I → sa_J → Prop} {a1 a2 a3 : Int32} {n : Nat} {h d k l e Di dd : Int} {T : Nat → Int}
theorem orP_two {c : Prop} [Decidable c] {v v' w : Int32} {j : Nat} {r1 r2 : Option Value} {I1 I2 : sa_I} {J1 J2 : sa_J} (p : orP c v w j I J r1 I1 J1) (q : orP c v' w j I' J' r2 I2 J2) (hv : c → v = v') (hN : N I J I' J') (hR : N (rf I j) J (rf I' j) J') : la_ans false r1 r2 ∧ N I1 J1 I2 J2 := by
  unfold orP at p q
  by_cases hc : c
  · rw [if_pos hc] at p q
    obtain ⟨rfl, rfl, rfl⟩ := p
    obtain ⟨rfl, rfl, rfl⟩ := q
    rw [hv hc]
    exact ⟨⟨_, rfl, rfl⟩, hN⟩
  · rw [if_neg hc] at p q
    obtain ⟨rfl, rfl, rfl⟩ := p
    obtain ⟨rfl, rfl, rfl⟩ := q
    exact ⟨⟨_, rfl, rfl⟩, hR⟩
theorem st_field (F : Fld n h d k l e Di dd T) (hc : clS n h d k l e Di dd T I J) (hr : rfS n h d k l e Di dd T I' J') (hN : N I J I' J') (hR : N (rf I 2) J (rf I' 2) J') : la_Step l0 D aI aL ad ad' N 2 a1 a2 a3 I J I' J' := by
  obtain ⟨c1, c2, c3, c4, _⟩ := hc
  obtain ⟨r1, _, r6, _, _, r9, r10, _, _⟩ := hr
  have hs := F.sign
  have hq := F.q
  have hn := F.1
  have hDb := F.2.2.2.1
  have h1 := c_field6 (l := l0) (D := D) (aI := aI) (aL := aL) (ad := ad) (I := I) (J := J) (x := a1) (by rw [c1]; rcases hn with rfl | rfl <;> decide)
  have h2 := c_field7 (l := l0) (D := D) (aI := aI) (aL := aL) (ad := ad') (I := I') (J := J') (x := a1) (by rw [r1]; rcases hn with rfl | rfl <;> decide)
  rw [c1, c4, c2, lI_iI] at h1
  rw [r1, r6, r9, r10, iI_mul] at h2
  have z : ∀ {x : Int}, bd x 12000 → ((lI x ≤ 0) ↔ x ≤ 0) := fun hx => lI_le (bd_rg hx (by decide)) (b := 0) ⟨by omega, by omega⟩
  have er : rr (nI n) (lI Di) = rr (nI n) (lI dd) := by
    unfold rr
    by_cases cd : Di ≤ 0
    · rw [if_pos ((z hDb).mpr cd), if_pos ((z hs.2).mpr (hs.1.mp cd)), if_pos ((z hDb).mpr cd), if_pos ((z hs.2).mpr (hs.1.mp cd))]
    · have cd2 : ¬ dd ≤ 0 := fun q => cd (hs.1.mpr q)
      rw [if_neg (fun q => cd ((z hDb).mp q)), if_neg (fun q => cd2 ((z hs.2).mp q)), if_neg (fun q => cd ((z hDb).mp q)), if_neg (fun q => cd2 ((z hs.2).mp q))]
  refine ⟨_, _, h1, h2, fun r1 I1 J1 r2 I2 J2 p q => ?_⟩
  unfold fiP at p q
  rw [er] at p
  have two : ∀ {v : Int32}, p_i v I J r1 I1 J1 → p_i v I' J' r2 I2 J2 → la_ans false r1 r2 ∧ N I1 J1 I2 J2 := by
    intro v p q
    obtain ⟨rfl, rfl, rfl⟩ := p
    obtain ⟨rfl, rfl, rfl⟩ := q
    exact ⟨⟨_, rfl, rfl⟩, hN⟩
  by_cases x0 : a1 = 0
  · rw [if_pos x0] at p q; exact two p q
  rw [if_neg x0] at p q
  by_cases x1 : a1 = 1
  · rw [if_pos x1] at p q; exact two p q
  rw [if_neg x1] at p q
  by_cases x2 : a1 = 2
  · rw [if_pos x2] at p q; exact two p q
  rw [if_neg x2] at p q
  by_cases x3 : a1 = 3
  · rw [if_pos x3] at p q; exact two p q
  rw [if_neg x3] at p q
  obtain ⟨rfl, rfl, rfl⟩ := p
  obtain ⟨rfl, rfl, rfl⟩ := q
  exact ⟨⟨_, rfl, rfl⟩, hR⟩
theorem st_disc (F : Fld n h d k l e Di dd T) (hc : clS n h d k l e Di dd T I J) (hr : rfS n h d k l e Di dd T I' J') (hN : N I J I' J') (hR : N (rf I 2) J (rf I' 2) J') : la_Step l0 D aI aL ad ad' N 3 a1 a2 a3 I J I' J' := by
  obtain ⟨c1, c2, c3, _⟩ := hc
  obtain ⟨r1, _, _, _, _, _, r10, r11, _⟩ := hr
  have hn := F.1
  have h1 := c_disc6 (l := l0) (D := D) (aI := aI) (aL := aL) (ad := ad) (I := I) (J := J) (x := a1) (by rw [c1]; rcases hn with rfl | rfl <;> decide)
  have h2 := c_disc7 (l := l0) (D := D) (aI := aI) (aL := aL) (ad := ad') (I := I') (J := J') (x := a1) (by rw [r1]; rcases hn with rfl | rfl <;> decide)
  rw [c2, c3] at h1
  rw [r10, r11] at h2
  refine ⟨_, _, h1, h2, fun r1 I1 J1 r2 I2 J2 p q => ?_⟩
  unfold diP at p q
  by_cases x0 : a1 = 0
  · rw [if_pos x0] at p q
    obtain ⟨rfl, rfl, rfl⟩ := p
    obtain ⟨rfl, rfl, rfl⟩ := q
    exact ⟨⟨_, rfl, rfl⟩, hN⟩
  rw [if_neg x0] at p q
  by_cases x1 : a1 = 1
  · rw [if_pos x1] at p q
    obtain ⟨rfl, rfl, rfl⟩ := p
    obtain ⟨rfl, rfl, rfl⟩ := q
    exact ⟨⟨_, rfl, rfl⟩, hN⟩
  rw [if_neg x1] at p q
  obtain ⟨rfl, rfl, rfl⟩ := p
  obtain ⟨rfl, rfl, rfl⟩ := q
  exact ⟨⟨_, rfl, rfl⟩, hR⟩
theorem st_table (F : Fld n h d k l e Di dd T) (hc : clS n h d k l e Di dd T I J) (hr : rfS n h d k l e Di dd T I' J') (hN : N I J I' J') (hR : N (rf I 1) J (rf I' 1) J') : la_Step l0 D aI aL ad ad' N 5 a1 a2 a3 I J I' J' := by
  obtain ⟨x, hx, rfl⟩ := iI_of a1
  obtain ⟨y, hy, rfl⟩ := iI_of a2
  obtain ⟨z, hz, rfl⟩ := iI_of a3
  have hn := F.1
  refine ⟨_, _, c_table6 hc.1 hn hx hy hz, c_table7 hr.1 hn hx hy hz, fun r1 I1 J1 r2 I2 J2 p q => orP_two p q (fun hh => ?_) hN hR⟩
  obtain ⟨h1, h2, h3, h4, h5, h6⟩ := hh
  rw [hc.2.2.2.2.2.2 (9 * x.toNat + 3 * y.toNat + z.toNat) (by omega), hr.2.2.2.2.2.2.2.2 x.toNat y.toNat z.toNat (by omega) (by omega) (by omega)]
theorem st_basis (F : Fld n h d k l e Di dd T) (hc : clS n h d k l e Di dd T I J) (hr : rfS n h d k l e Di dd T I' J') (hN : N I J I' J') (hR : N (rf I 1) J (rf I' 1) J') : la_Step l0 D aI aL ad ad' N 4 a1 a2 a3 I J I' J' := by
  obtain ⟨x, hx, rfl⟩ := iI_of a1
  obtain ⟨y, hy, rfl⟩ := iI_of a2
  have hn := F.1
  refine ⟨_, _, c_basis6 hc.1 hn hx hy, c_basis7 hr.1 hn hx hy, fun r1 I1 J1 r2 I2 J2 p q => orP_two p q (fun hh => ?_) hN hR⟩
  obtain ⟨h1, h2, h3, h4⟩ := hh
  obtain ⟨_, _, _, _, c6, c7, _⟩ := hc
  obtain ⟨_, r5, r6, r7, r8, r9, _⟩ := hr
  by_cases cn : y = n
  · rw [if_pos cn, c7 x.toNat (by omega), lI_iI]
    unfold baR; rw [if_pos cn]
    have : x = 0 ∨ x = 1 ∨ x = 2 := by omega
    rcases this with rfl | rfl | rfl
    · rw [if_pos rfl]; rfl
    · rw [if_neg (by decide), if_pos rfl, r6]; rfl
    · rw [if_neg (by decide), if_neg (by decide), r9]; rfl
  · rw [if_neg cn, c6 (3 * x.toNat + y.toNat) (by omega), lI_iI]
    unfold baR; rw [if_neg cn]
    have hx3 : x = 0 ∨ x = 1 ∨ x = 2 := by omega
    have hy3 : y = 0 ∨ y = 1 ∨ y = 2 := by omega
    rcases hx3 with rfl | rfl | rfl
    · rcases hy3 with rfl | rfl | rfl
      · rw [if_pos rfl]; rfl
      · rw [if_neg (by decide), if_pos (by decide)]; rfl
      · rw [if_neg (by decide), if_pos (by decide)]; rfl
    · rcases hy3 with rfl | rfl | rfl
      · rw [if_neg (by decide), if_neg (by decide), if_pos rfl, r5]; rfl
      · rw [if_pos rfl]; rfl
      · rw [if_neg (by decide), if_pos (by decide)]; rfl
    · rcases hy3 with rfl | rfl | rfl
      · rw [if_neg (by decide), if_neg (by decide), if_neg (by decide), if_pos rfl, r7]; rfl
      · rw [if_neg (by decide), if_neg (by decide), if_neg (by decide), if_neg (by decide), r8]; rfl
      · rw [if_pos rfl]; rfl
end S1
