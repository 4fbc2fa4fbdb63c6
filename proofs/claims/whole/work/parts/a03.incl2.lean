/-- the class's lattice: rows of a lattice that has all multiples of W -/
def LatS (n : Nat) (W : Int) (R : Nat → Int) (I : sa_I) (J : sa_J) : Prop := I 14 2 = nI n ∧ J 14 3 = lI W ∧ (∀ t, t < 9 → J 15 t = lI (R t) ∧ 0 ≤ R t ∧ R t ≤ W) ∧ Tri R ∧ WL R W ∧ 0 < W ∧ W ≤ 1000000 ∧ (n = 2 → R 6 = 0 ∧ R 7 = 0 ∧ R 8 = 1)
section IO
variable {l : Launch} {D : va_G} {aI aL : ClassId} {ad : Nat → Nat} {P : sa_P} {I : sa_I} {J : sa_J}
theorem c_include3 {W : Int} {R : Nat → Int} {v : V3} {a1 q1 n1 p : Nat} (hL : LatS 3 W R I J) (hq1 : sa_iJ (EC l D aI aL ad) a1 q1 n1) (hn1 : n1 < 2 ^ 31) (hb : p + 3 ≤ n1) (hz : q1 ≠ 16) (hv : ∀ j, j < 3 → J q1 (p + j) = lI (vk v j) ∧ rg (vk v j)) : Con (EC l D aI aL ad) M_X3_include yX3_include [.ref (ad 14), .ref a1, .int (nI p)] I J (fun r I1 J1 => r = none ∧ I1 = I ∧ (∀ q, q ≠ 15 → q ≠ 16 → J1 q = J q) ∧ ∃ R', LatS 3 W R' I1 J1 ∧ ∀ H, Grp H → (In3 H R' ↔ (In3 H R ∧ H v))) := by
  refine Con.of (by decide +kernel) rfl (Nat.le_of_ble_eq_true rfl) ?_
  obtain ⟨hs, hw, hR, hT, hWL, hW0, hW, h2⟩ := hL
  refine bX3_include_0 hq1 hn1 (fun _ => ?_) (fun c => absurd (by rw [hw]; exact (lI_lt (a := 0) ⟨by omega, by omega⟩ ⟨by omega, by omega⟩).mpr hW0) c)
  refine bX3_include_10 (v11 := nI 0) hq1 hn1 rfl ?_
  obtain ⟨vm0, vr0⟩ := hv 0 (by decide)
  refine bX3_include_12 hq1 hn1 (fun c => absurd c (by rw [hs]; decide)) (fun _ => ?_)
  refine bX3_include_20 (j28 := p + 0) hq1 hn1 (nI_addE p 0) (by omega) ?_
  refine v_X3_32 dX3_include_34 rfl ⟨rfl, rfl, Nat.le_of_ble_eq_true rfl, Nat.le_of_ble_eq_true rfl⟩ (c_floorModE (z := vk v 0 % W) (vm0) (hw) vr0 hW0 hW rfl) rfl rfl (Nat.le_of_ble_eq_true rfl) (fun r I1 J1 hp => ?_)
  obtain ⟨rfl, e2', e3'⟩ := hp
  obtain rfl := e2'.symm
  obtain rfl := e3'.symm
  refine bX3_include_37 (s1 := 0) (v38 := nI 1) hq1 hn1 (by decide) rfl ?_
  obtain ⟨vm1, vr1⟩ := hv 1 (by decide)
  refine bX3_include_12 hq1 hn1 (fun c => absurd c (by rw [hs]; decide)) (fun _ => ?_)
  refine bX3_include_20 (j28 := p + 1) hq1 hn1 (nI_addE p 1) (by omega) ?_
  refine v_X3_32 dX3_include_34 rfl ⟨rfl, rfl, Nat.le_of_ble_eq_true rfl, Nat.le_of_ble_eq_true rfl⟩ (c_floorModE (z := vk v 1 % W) (by simp only [sa_uJ_ne hz]; exact vm1) (by simp only [sa_uJ_ne (show 14 ≠ 16 by decide)]; exact hw) vr1 hW0 hW rfl) rfl rfl (Nat.le_of_ble_eq_true rfl) (fun r I1 J1 hp => ?_)
  obtain ⟨rfl, e2', e3'⟩ := hp
  obtain rfl := e2'.symm
  obtain rfl := e3'.symm
  refine bX3_include_37 (s1 := 1) (v38 := nI 2) hq1 hn1 (by decide) rfl ?_
  obtain ⟨vm2, vr2⟩ := hv 2 (by decide)
  refine bX3_include_12 hq1 hn1 (fun c => absurd c (by rw [hs]; decide)) (fun _ => ?_)
  refine bX3_include_20 (j28 := p + 2) hq1 hn1 (nI_addE p 2) (by omega) ?_
  refine v_X3_32 dX3_include_34 rfl ⟨rfl, rfl, Nat.le_of_ble_eq_true rfl, Nat.le_of_ble_eq_true rfl⟩ (c_floorModE (z := vk v 2 % W) (by simp only [sa_uJ_ne hz]; exact vm2) (by simp only [sa_uJ_ne (show 14 ≠ 16 by decide)]; exact hw) vr2 hW0 hW rfl) rfl rfl (Nat.le_of_ble_eq_true rfl) (fun r I1 J1 hp => ?_)
  obtain ⟨rfl, e2', e3'⟩ := hp
  obtain rfl := e2'.symm
  obtain rfl := e3'.symm
  refine bX3_include_37 (s1 := 2) (v38 := nI 3) hq1 hn1 (by decide) rfl ?_
  refine bX3_include_12 hq1 hn1 (fun _ => ?_) (fun c => absurd (by rw [hs]; decide) c)
  refine bX3_include_44 (v50 := nI 2) (by rw [hs]; rfl) ?_
  refine bX3_include_51 (fun c => absurd c (by decide)) (fun _ => ?_)
  refine bX3_include_55 (v58 := nI 6) (v61 := nI 0) rfl rfl ?_
  have hM0 : LM 3 W R (fun t => vk v t % W) (sa_uJ (sa_uJ (sa_uJ (J) 16 0 (lI (vk v 0 % W))) 16 1 (lI (vk v 1 % W))) 16 2 (lI (vk v 2 % W))) := by
    refine ⟨by simp only [sa_uJ_ne (show 14 ≠ 16 by decide)]; exact hw, fun t ht => ⟨by simp only [sa_uJ_ne (show 15 ≠ 16 by decide)]; exact (hR t ht).1, (hR t ht).2⟩, fun t ht => ⟨?_, mod_bd hW0⟩⟩
    rcases below3 (show t < 3 by omega) with rfl | rfl | rfl
    · simp [sa_uJ_if]
    · simp [sa_uJ_if]
    · simp [sa_uJ_if]
  refine in_loop2 (by decide) (by decide) hW0 hW 40 0 R (fun t => vk v t % W) _ (eu40 (mod_bd hW0).1 (by have := (mod_bd (a := vk v 2) hW0).2; omega)) (by decide) hT.2.2.2.2.2 hM0 (fun R2 C2 J2 p2 M2 z2 s2 sc2 fr2 r2 => ?_)
  refine bX3_include_212 (v212 := nI 1) rfl ?_
  refine bX3_include_51 (fun c => absurd c (by decide)) (fun _ => ?_)
  refine bX3_include_55 (v58 := nI 3) (v61 := nI 0) rfl rfl ?_
  refine in_loop1 (by decide) (by decide) hW0 hW 40 0 R2 C2 J2 (eu40 (M2.2.2 1 (by decide)).2.1 (by have := (M2.2.2 1 (by decide)).2.2; omega)) (by decide) (by have := hT.2.2.2.2.1; omega) M2 (fun R1 C1 J1 p1 M1 z1 s1 sc1 fr1 r1 => ?_)
  refine bX3_include_212 (v212 := nI 0) rfl ?_
  refine bX3_include_51 (fun c => absurd c (by decide)) (fun _ => ?_)
  refine bX3_include_55 (v58 := nI 0) (v61 := nI 0) rfl rfl ?_
  refine in_loop0 (by decide) (by decide) hW0 hW 40 0 R1 C1 J1 (eu40 (M1.2.2 0 (by decide)).2.1 (by have := (M1.2.2 0 (by decide)).2.2; omega)) (by decide) (by have := hT.2.2.2.1; omega) M1 (fun R0 C0 J0 p0 M0 z0 s0 sc0 fr0 r0 => ?_)
  refine bX3_include_212 (v212 := (-1)) rfl ?_
  refine bX3_include_51 (fun _ => bX3_include_218 ⟨rfl, rfl, ?_, ?_⟩) (fun c => absurd (by decide) c)
  · intro q h15 h16
    rw [fr0 q h15 h16, fr1 q h15 h16, fr2 q h15 h16]
    simp only [sa_uJ_ne h16]
  obtain ⟨a20, a21, a22, a23, a24, a25⟩ := s2
  obtain ⟨a10, a11, a12, a15, a16, a17, a18⟩ := s1
  obtain ⟨a01, a02, a03, a04, a05, a06, a07, a08⟩ := s0
  have hH : ∀ H, Grp H → (In3 H R0 ↔ (In3 H R ∧ H v)) := by
    intro H g
    have e3 : C1 2 = 0 := sc1.trans z2
    constructor
    · rintro ⟨a, b, c⟩
      have q0 := (r0 H g).mpr ⟨a, by rw [z0]; exact g.1⟩
      rw [a10, a20] at q0
      have w0 := hWL.h0 hT g q0.1
      rw [a03, a04] at b
      have q1 := (r1 H g w0).mpr ⟨b, by rw [z1]; exact q0.2⟩
      rw [a23, a24] at q1
      have w1 := hWL.h1 hT g q0.1 q1.1
      rw [a06, a07, a08, a16, a17, a18] at c
      have q2 := (r2 H g w0 w1).mpr ⟨c, by rw [z2]; exact q1.2⟩
      have i : In3 H R := ⟨q0.1, q1.1, q2.1⟩
      exact ⟨i, (cut_H g (hWL.all g i)).mpr q2.2⟩
    · rintro ⟨i, hv⟩
      have w := hWL.all g i
      have q2 := (r2 H g w.1 w.2.1).mp ⟨i.2.2, (cut_H g w).mp hv⟩
      rw [z2] at q2
      have q1 := (r1 H g w.1).mp ⟨by rw [a23, a24]; exact i.2.1, q2.2⟩
      rw [z1] at q1
      have q0 := (r0 H g).mp ⟨by rw [a10, a20]; exact i.1, q1.2⟩
      exact ⟨q0.1, by rw [a03, a04]; exact q1.1, by rw [a06, a07, a08, a16, a17, a18]; exact q2.1⟩
  have hT0 : Tri R0 := ⟨by rw [a01, a11, a21]; exact hT.1, by rw [a02, a12, a22]; exact hT.2.1, by rw [a05, a15, a25]; exact hT.2.2.1, p0, by rw [a04]; exact p1, by rw [a08, a18]; exact p2⟩
  refine ⟨R0, ⟨hs, ?_, M0.2.1, hT0, WL_of (fun H g i => hWL.all g ((hH H g).mp i).1), hW0, hW, fun c => absurd c (by decide)⟩, hH⟩
  exact M0.1
theorem c_include2 {W : Int} {R : Nat → Int} {v : V3} {a1 q1 n1 p : Nat} (hL : LatS 2 W R I J) (hq1 : sa_iJ (EC l D aI aL ad) a1 q1 n1) (hn1 : n1 < 2 ^ 31) (hb : p + 2 ≤ n1) (hz : q1 ≠ 16) (hv : ∀ j, j < 2 → J q1 (p + j) = lI (vk v j) ∧ rg (vk v j)) : Con (EC l D aI aL ad) M_X3_include yX3_include [.ref (ad 14), .ref a1, .int (nI p)] I J (fun r I1 J1 => r = none ∧ I1 = I ∧ (∀ q, q ≠ 15 → q ≠ 16 → J1 q = J q) ∧ ∃ R', LatS 2 W R' I1 J1 ∧ ∀ H, Grp H → (In3 H R' ↔ (In3 H R ∧ H v))) := by
  refine Con.of (by decide +kernel) rfl (Nat.le_of_ble_eq_true rfl) ?_
  obtain ⟨hs, hw, hR, hT, hWL, hW0, hW, h2⟩ := hL
  refine bX3_include_0 hq1 hn1 (fun _ => ?_) (fun c => absurd (by rw [hw]; exact (lI_lt (a := 0) ⟨by omega, by omega⟩ ⟨by omega, by omega⟩).mpr hW0) c)
  refine bX3_include_10 (v11 := nI 0) hq1 hn1 rfl ?_
  obtain ⟨vm0, vr0⟩ := hv 0 (by decide)
  refine bX3_include_12 hq1 hn1 (fun c => absurd c (by rw [hs]; decide)) (fun _ => ?_)
  refine bX3_include_20 (j28 := p + 0) hq1 hn1 (nI_addE p 0) (by omega) ?_
  refine v_X3_32 dX3_include_34 rfl ⟨rfl, rfl, Nat.le_of_ble_eq_true rfl, Nat.le_of_ble_eq_true rfl⟩ (c_floorModE (z := vk v 0 % W) (vm0) (hw) vr0 hW0 hW rfl) rfl rfl (Nat.le_of_ble_eq_true rfl) (fun r I1 J1 hp => ?_)
  obtain ⟨rfl, e2', e3'⟩ := hp
  obtain rfl := e2'.symm
  obtain rfl := e3'.symm
  refine bX3_include_37 (s1 := 0) (v38 := nI 1) hq1 hn1 (by decide) rfl ?_
  obtain ⟨vm1, vr1⟩ := hv 1 (by decide)
  refine bX3_include_12 hq1 hn1 (fun c => absurd c (by rw [hs]; decide)) (fun _ => ?_)
  refine bX3_include_20 (j28 := p + 1) hq1 hn1 (nI_addE p 1) (by omega) ?_
  refine v_X3_32 dX3_include_34 rfl ⟨rfl, rfl, Nat.le_of_ble_eq_true rfl, Nat.le_of_ble_eq_true rfl⟩ (c_floorModE (z := vk v 1 % W) (by simp only [sa_uJ_ne hz]; exact vm1) (by simp only [sa_uJ_ne (show 14 ≠ 16 by decide)]; exact hw) vr1 hW0 hW rfl) rfl rfl (Nat.le_of_ble_eq_true rfl) (fun r I1 J1 hp => ?_)
  obtain ⟨rfl, e2', e3'⟩ := hp
  obtain rfl := e2'.symm
  obtain rfl := e3'.symm
  refine bX3_include_37 (s1 := 1) (v38 := nI 2) hq1 hn1 (by decide) rfl ?_
  refine bX3_include_12 hq1 hn1 (fun _ => ?_) (fun c => absurd (by rw [hs]; decide) c)
  refine bX3_include_44 (v50 := nI 1) (by rw [hs]; rfl) ?_
  refine bX3_include_51 (fun c => absurd c (by decide)) (fun _ => ?_)
  refine bX3_include_55 (v58 := nI 3) (v61 := nI 0) rfl rfl ?_
  have hM0 : LM 2 W R (fun t => vk v t % W) (sa_uJ (sa_uJ (J) 16 0 (lI (vk v 0 % W))) 16 1 (lI (vk v 1 % W))) := by
    refine ⟨by simp only [sa_uJ_ne (show 14 ≠ 16 by decide)]; exact hw, fun t ht => ⟨by simp only [sa_uJ_ne (show 15 ≠ 16 by decide)]; exact (hR t ht).1, (hR t ht).2⟩, fun t ht => ⟨?_, mod_bd hW0⟩⟩
    rcases below3 (show t < 3 by omega) with rfl | rfl | rfl
    · simp [sa_uJ_if]
    · simp [sa_uJ_if]
    · omega
  refine in_loop1 (by decide) (by decide) hW0 hW 40 0 R (fun t => vk v t % W) _ (eu40 (mod_bd hW0).1 (by have := (mod_bd (a := vk v 1) hW0).2; omega)) (by decide) hT.2.2.2.2.1 hM0 (fun R1 C1 J1 p1 M1 z1 s1 sc1 fr1 r1 => ?_)
  refine bX3_include_212 (v212 := nI 0) rfl ?_
  refine bX3_include_51 (fun c => absurd c (by decide)) (fun _ => ?_)
  refine bX3_include_55 (v58 := nI 0) (v61 := nI 0) rfl rfl ?_
  refine in_loop0 (by decide) (by decide) hW0 hW 40 0 R1 C1 J1 (eu40 (M1.2.2 0 (by decide)).2.1 (by have := (M1.2.2 0 (by decide)).2.2; omega)) (by decide) (by have := hT.2.2.2.1; omega) M1 (fun R0 C0 J0 p0 M0 z0 s0 sc0 fr0 r0 => ?_)
  refine bX3_include_212 (v212 := (-1)) rfl ?_
  refine bX3_include_51 (fun _ => bX3_include_218 ⟨rfl, rfl, ?_, ?_⟩) (fun c => absurd (by decide) c)
  · intro q h15 h16
    rw [fr0 q h15 h16, fr1 q h15 h16]
    simp only [sa_uJ_ne h16]
  obtain ⟨b6, b7, b8⟩ := h2 rfl
  obtain ⟨a10, a11, a12, a15, a16, a17, a18⟩ := s1
  obtain ⟨a01, a02, a03, a04, a05, a06, a07, a08⟩ := s0
  have hH : ∀ H, Grp H → (In3 H R0 ↔ (In3 H R ∧ H v)) := by
    intro H g
    constructor
    · rintro ⟨a, b, c⟩
      have q0 := (r0 H g).mpr ⟨a, by rw [z0]; exact g.1⟩
      rw [a10] at q0
      have w0 := hWL.h0 hT g q0.1
      rw [a03, a04] at b
      have q1 := (r1 H g w0).mpr ⟨b, by rw [z1]; exact q0.2⟩
      rw [a06, a07, a08, a16, a17, a18] at c
      have i : In3 H R := ⟨q0.1, q1.1, c⟩
      have w := hWL.all g i
      rw [b6, b7, b8] at c
      exact ⟨i, (cut_H2 g w.1 w.2.1 c).mpr q1.2⟩
    · rintro ⟨i, hv⟩
      have w := hWL.all g i
      have c := i.2.2
      rw [b6, b7, b8] at c
      have q1 := (r1 H g w.1).mp ⟨i.2.1, (cut_H2 g w.1 w.2.1 c).mp hv⟩
      rw [z1] at q1
      have q0 := (r0 H g).mp ⟨by rw [a10]; exact i.1, q1.2⟩
      exact ⟨q0.1, by rw [a03, a04]; exact q1.1, by rw [a06, a07, a08, a16, a17, a18]; exact i.2.2⟩
  have hT0 : Tri R0 := ⟨by rw [a01, a11]; exact hT.1, by rw [a02, a12]; exact hT.2.1, by rw [a05, a15]; exact hT.2.2.1, p0, by rw [a04]; exact p1, by rw [a08, a18]; exact hT.2.2.2.2.2⟩
  refine ⟨R0, ⟨hs, ?_, M0.2.1, hT0, WL_of (fun H g i => hWL.all g ((hH H g).mp i).1), hW0, hW, fun _ => ⟨by rw [a06, a16, b6], by rw [a07, a17, b7], by rw [a08, a18, b8]⟩⟩, hH⟩
  exact M0.1
end IO
/-- rows settled -/
def setR (n : Nat) (R : Nat → Int) (t : Nat) : Int := match t with
  | 3 => R 3 % R 0
  | 6 => if n = 2 then R 6 else (R 6 - R 7 / R 4 * (R 3 % R 0)) % R 0
  | 7 => if n = 2 then R 7 else R 7 % R 4
  | _ => R t
theorem setR_ok {n : Nat} {R : Nat → Int} (hT : Tri R) (h2 : n = 2 → R 6 = 0 ∧ R 7 = 0) : Hm (setR n R) ∧ Alike R (setR n R) := by
  obtain ⟨z1, z2, z5, p0, p4, p8⟩ := hT
  have m3 := Int.emod_nonneg (R 3) (show R 0 ≠ 0 by omega)
  have u3 := Int.emod_lt_of_pos (R 3) p0
  have d3 := Int.mul_ediv_add_emod (R 3) (R 0)
  have c3 := Int.mul_comm (R 0) (R 3 / R 0)
  by_cases hn : n = 2
  · obtain ⟨b6, b7⟩ := h2 hn
    refine ⟨⟨⟨z1, z2, z5, p0, p4, p8⟩, ⟨m3, u3⟩, ?_, ?_⟩, fun H g => ?_⟩
    · show 0 ≤ (if n = 2 then R 6 else _) ∧ (if n = 2 then R 6 else _) < R 0
      rw [if_pos hn]; omega
    · show 0 ≤ (if n = 2 then R 7 else _) ∧ (if n = 2 then R 7 else _) < R 4
      rw [if_pos hn]; omega
    · show (H (R 0, 0, 0) ∧ H (R 3, R 4, 0) ∧ H (R 6, R 7, R 8)) ↔ (H (R 0, 0, 0) ∧ H (R 3 % R 0, R 4, 0) ∧ H (if n = 2 then R 6 else _, if n = 2 then R 7 else _, R 8))
      rw [if_pos hn, if_pos hn]
      constructor
      · rintro ⟨a, b, c⟩
        refine ⟨a, g.co (-(R 3 / R 0)) 0 0 b a g.1 g.1 ?_ ?_ ?_, c⟩ <;> dsimp only <;> simp only [Int.neg_mul, Int.mul_zero] <;> omega
      · rintro ⟨a, b, c⟩
        refine ⟨a, g.co (R 3 / R 0) 0 0 b a g.1 g.1 ?_ ?_ ?_, c⟩ <;> dsimp only <;> simp only [Int.mul_zero] <;> omega
  · have m7 := Int.emod_nonneg (R 7) (show R 4 ≠ 0 by omega)
    have u7 := Int.emod_lt_of_pos (R 7) p4
    have d7 := Int.mul_ediv_add_emod (R 7) (R 4)
    have c7 := Int.mul_comm (R 4) (R 7 / R 4)
    have m6 := Int.emod_nonneg (R 6 - R 7 / R 4 * (R 3 % R 0)) (show R 0 ≠ 0 by omega)
    have u6 := Int.emod_lt_of_pos (R 6 - R 7 / R 4 * (R 3 % R 0)) p0
    have d6 := Int.mul_ediv_add_emod (R 6 - R 7 / R 4 * (R 3 % R 0)) (R 0)
    have c6 := Int.mul_comm (R 0) ((R 6 - R 7 / R 4 * (R 3 % R 0)) / R 0)
    refine ⟨⟨⟨z1, z2, z5, p0, p4, p8⟩, ⟨m3, u3⟩, ?_, ?_⟩, fun H g => ?_⟩
    · show 0 ≤ (if n = 2 then R 6 else _) ∧ (if n = 2 then R 6 else _) < R 0
      rw [if_neg hn]; exact ⟨m6, u6⟩
    · show 0 ≤ (if n = 2 then R 7 else _) ∧ (if n = 2 then R 7 else _) < R 4
      rw [if_neg hn]; exact ⟨m7, u7⟩
    · show (H (R 0, 0, 0) ∧ H (R 3, R 4, 0) ∧ H (R 6, R 7, R 8)) ↔ (H (R 0, 0, 0) ∧ H (R 3 % R 0, R 4, 0) ∧ H (if n = 2 then R 6 else _, if n = 2 then R 7 else _, R 8))
      rw [if_neg hn, if_neg hn]
      have k1 : H (R 0, 0, 0) → (H (R 3, R 4, 0) ↔ H (R 3 % R 0, R 4, 0)) := by
        intro a
        constructor
        · intro b
          refine g.co (-(R 3 / R 0)) 0 0 b a g.1 g.1 ?_ ?_ ?_ <;> dsimp only <;> simp only [Int.neg_mul, Int.mul_zero] <;> omega
        · intro b
          refine g.co (R 3 / R 0) 0 0 b a g.1 g.1 ?_ ?_ ?_ <;> dsimp only <;> simp only [Int.mul_zero] <;> omega
      generalize R 3 % R 0 = r at *
      generalize (R 6 - R 7 / R 4 * r) % R 0 = u at *
      generalize (R 6 - R 7 / R 4 * r) / R 0 = w at *
      generalize R 7 % R 4 = y at *
      generalize R 7 / R 4 = x at *
      constructor
      · rintro ⟨a, b, c⟩
        have b' := (k1 a).mp b
        refine ⟨a, b', g.co (-x) (-w) 0 c b' a g.1 ?_ ?_ ?_⟩ <;> dsimp only <;> simp only [Int.neg_mul, Int.mul_zero] <;> omega
      · rintro ⟨a, b, c⟩
        refine ⟨a, (k1 a).mpr b, g.co x w 0 c b a g.1 ?_ ?_ ?_⟩ <;> dsimp only <;> simp only [Int.mul_zero] <;> omega
section IP
variable {l : Launch} {D : va_G} {aI aL : ClassId} {ad : Nat → Nat} {P : sa_P} {I : sa_I} {J : sa_J}
theorem c_floorDivE {E : sa_E} {I : sa_I} {J : sa_J} {a W z : Int} {x y : Int64} (hx : x = lI a) (hy : y = lI W) (ha : rg a) (hW0 : 0 < W) (hW : W ≤ 1000000) (hz : a / W = z) : Con E M_J9_floorDiv_f86c9 yJ9_floorDiv_f86c9 [.long x, .long y] I J (p_l (lI z) I J) := by
  subst hz; subst hx; subst hy
  exact c_floorDiv ha ⟨by omega, by omega⟩ hW0
theorem c_settle3 {W : Int} {R : Nat → Int} (hL : LatS 3 W R I J) : Con (EC l D aI aL ad) M_X3_settle yX3_settle [.ref (ad 14)] I J (fun r I1 J1 => r = none ∧ I1 = I ∧ (∀ q, q ≠ 15 → J1 q = J q) ∧ (∀ t, t < 9 → J1 15 t = lI (setR 3 R t))) := by
  refine Con.of (by decide +kernel) rfl (Nat.le_of_ble_eq_true rfl) ?_
  obtain ⟨hs, hw, hR, hT, hWL, hW0, hW, h2⟩ := hL
  obtain ⟨z1, z2, z5, p0, p4, p8⟩ := hT
  obtain ⟨m0, l0, u0⟩ := hR 0 (by decide)
  obtain ⟨m1, l1, u1⟩ := hR 1 (by decide)
  obtain ⟨m2, l2, u2⟩ := hR 2 (by decide)
  obtain ⟨m3, l3, u3⟩ := hR 3 (by decide)
  obtain ⟨m4, l4, u4⟩ := hR 4 (by decide)
  obtain ⟨m5, l5, u5⟩ := hR 5 (by decide)
  obtain ⟨m6, l6, u6⟩ := hR 6 (by decide)
  obtain ⟨m7, l7, u7⟩ := hR 7 (by decide)
  obtain ⟨m8, l8, u8⟩ := hR 8 (by decide)
  have n0 : ¬ lI (R 0) ≤ 0 := fun c => by have := (lI_le (b := 0) ⟨by omega, by omega⟩ ⟨by omega, by omega⟩).mp c; omega
  have n4 : ¬ lI (R 4) ≤ 0 := fun c => by have := (lI_le (b := 0) ⟨by omega, by omega⟩ ⟨by omega, by omega⟩).mp c; omega
  have d3 := Int.mul_ediv_add_emod (R 3) (R 0)
  have c3 := Int.mul_comm (R 0) (R 3 / R 0)
  have r3 := mod_bd (a := R 3) p0
  refine bX3_settle_0 (v1 := nI 1) rfl ?_
  refine bX3_settle_2 (fun c => absurd c (by rw [hs]; decide)) (fun _ => ?_)
  refine bX3_settle_10 (v13 := nI 0) rfl ?_
  refine bX3_settle_14 (fun c => absurd c (by decide)) (fun _ => ?_)
  refine bX3_settle_18 (j24 := 0) (v26 := lI (R 0)) rfl (by decide) m0 (fun c => absurd c n0) (fun _ => ?_)
  refine bX3_settle_33 (j41 := 3) rfl (by decide) ?_
  refine v_X3_38 dX3_settle_44 rfl ⟨rfl, rfl, Nat.le_of_ble_eq_true rfl, Nat.le_of_ble_eq_true rfl⟩ (c_floorDivE (a := R 3) (W := R 0) (z := R 3 / R 0) m3 rfl ⟨by omega, by omega⟩ p0 (by omega) rfl) rfl rfl (Nat.le_of_ble_eq_true rfl) (fun r I1 J1 hp => ?_)
  obtain ⟨rfl, e2', e3'⟩ := hp
  obtain rfl := e2'.symm
  obtain rfl := e3'.symm
  refine bX3_settle_47 (v50 := nI 0) rfl ?_
  refine bX3_settle_52 (fun c => absurd c (by decide)) (fun _ => ?_)
  refine bX3_settle_58 (j67 := 3) (j81 := 0) (v85 := lI (R 3 % R 0)) (v86 := nI 1) rfl (by decide) rfl (by decide) (by decide) (by rw [m3, m0, lI_mul, lI_sub]; congr 1; omega) rfl ?_
  refine bX3_settle_52 (fun _ => ?_) (fun c => absurd (by decide) c)
  refine bX3_settle_92 (v92 := (-1)) rfl ?_
  refine bX3_settle_14 (fun _ => ?_) (fun c => absurd (by decide) c)
  refine bX3_settle_98 (v98 := nI 2) rfl ?_
  have d7 := Int.mul_ediv_add_emod (R 7) (R 4)
  have c7 := Int.mul_comm (R 4) (R 7 / R 4)
  have r7 := mod_bd (a := R 7) p4
  have q7 := quo_bd (b := R 4) l7 u7 p4
  have x6 := qc_bd (c := R 3 % R 0) q7 ⟨r3.1, by omega⟩ hW
  have d6 := Int.mul_ediv_add_emod (R 6 - R 7 / R 4 * (R 3 % R 0)) (R 0)
  have c6 := Int.mul_comm (R 0) ((R 6 - R 7 / R 4 * (R 3 % R 0)) / R 0)
  refine bX3_settle_2 (fun c => absurd c (by rw [hs]; decide)) (fun _ => ?_)
  refine bX3_settle_10 (v13 := nI 1) rfl ?_
  refine bX3_settle_14 (fun c => absurd c (by decide)) (fun _ => ?_)
  refine bX3_settle_18 (j24 := 4) (v26 := lI (R 4)) rfl (by decide) (by simp [sa_uJ_if, m4]) (fun c => absurd c n4) (fun _ => ?_)
  refine bX3_settle_33 (j41 := 7) rfl (by decide) ?_
  refine v_X3_38 dX3_settle_44 rfl ⟨rfl, rfl, Nat.le_of_ble_eq_true rfl, Nat.le_of_ble_eq_true rfl⟩ (c_floorDivE (a := R 7) (W := R 4) (z := R 7 / R 4) (by simp [sa_uJ_if, m7]) rfl ⟨by omega, by omega⟩ p4 (by omega) rfl) rfl rfl (Nat.le_of_ble_eq_true rfl) (fun r I1 J1 hp => ?_)
  obtain ⟨rfl, e2', e3'⟩ := hp
  obtain rfl := e2'.symm
  obtain rfl := e3'.symm
  refine bX3_settle_47 (v50 := nI 0) rfl ?_
  refine bX3_settle_52 (fun c => absurd c (by decide)) (fun _ => ?_)
  refine bX3_settle_58 (j67 := 6) (j81 := 3) (v85 := lI (R 6 - R 7 / R 4 * (R 3 % R 0))) (v86 := nI 1) rfl (by decide) rfl (by decide) (by decide) (by simp [sa_uJ_if, m6, lI_mul, lI_sub]) rfl ?_
  refine bX3_settle_52 (fun c => absurd c (by decide)) (fun _ => ?_)
  refine bX3_settle_58 (j67 := 7) (j81 := 4) (v85 := lI (R 7 % R 4)) (v86 := nI 2) rfl (by decide) rfl (by decide) (by decide) (by simp only [sa_uJ_if]; simp [m7, m4, lI_mul, lI_sub]; congr 1; omega) rfl ?_
  refine bX3_settle_52 (fun _ => ?_) (fun c => absurd (by decide) c)
  refine bX3_settle_92 (v92 := nI 0) rfl ?_
  refine bX3_settle_14 (fun c => absurd c (by decide)) (fun _ => ?_)
  refine bX3_settle_18 (j24 := 0) (v26 := lI (R 0)) rfl (by decide) (by simp [sa_uJ_if, m0]) (fun c => absurd c n0) (fun _ => ?_)
  refine bX3_settle_33 (j41 := 6) rfl (by decide) ?_
  refine v_X3_38 dX3_settle_44 rfl ⟨rfl, rfl, Nat.le_of_ble_eq_true rfl, Nat.le_of_ble_eq_true rfl⟩ (c_floorDivE (a := R 6 - R 7 / R 4 * (R 3 % R 0)) (W := R 0) (z := (R 6 - R 7 / R 4 * (R 3 % R 0)) / R 0) (by simp [sa_uJ_if]) rfl ⟨by omega, by omega⟩ p0 (by omega) rfl) rfl rfl (Nat.le_of_ble_eq_true rfl) (fun r I1 J1 hp => ?_)
  obtain ⟨rfl, e2', e3'⟩ := hp
  obtain rfl := e2'.symm
  obtain rfl := e3'.symm
  refine bX3_settle_47 (v50 := nI 0) rfl ?_
  refine bX3_settle_52 (fun c => absurd c (by decide)) (fun _ => ?_)
  refine bX3_settle_58 (j67 := 6) (j81 := 0) (v85 := lI ((R 6 - R 7 / R 4 * (R 3 % R 0)) % R 0)) (v86 := nI 1) rfl (by decide) rfl (by decide) (by decide) (by simp only [sa_uJ_if]; simp [m0, lI_mul, lI_sub]; congr 1; omega) rfl ?_
  refine bX3_settle_52 (fun _ => ?_) (fun c => absurd (by decide) c)
  refine bX3_settle_92 (v92 := (-1)) rfl ?_
  refine bX3_settle_14 (fun _ => ?_) (fun c => absurd (by decide) c)
  refine bX3_settle_98 (v98 := nI 3) rfl ?_
  refine bX3_settle_2 (fun _ => bX3_settle_104 ⟨rfl, rfl, fun q h => by simp only [sa_uJ_ne h], fun t ht => ?_⟩) (fun c => absurd (by rw [hs]; decide) c)
  rcases below9 ht with rfl | rfl | rfl | rfl | rfl | rfl | rfl | rfl | rfl
  · simp [sa_uJ_if, setR, m0]
  · simp [sa_uJ_if, setR, m1]
  · simp [sa_uJ_if, setR, m2]
  · simp [sa_uJ_if, setR]
  · simp [sa_uJ_if, setR, m4]
  · simp [sa_uJ_if, setR, m5]
  · simp [sa_uJ_if, setR]
  · simp [sa_uJ_if, setR]
  · simp [sa_uJ_if, setR, m8]
theorem c_settle2 {W : Int} {R : Nat → Int} (hL : LatS 2 W R I J) : Con (EC l D aI aL ad) M_X3_settle yX3_settle [.ref (ad 14)] I J (fun r I1 J1 => r = none ∧ I1 = I ∧ (∀ q, q ≠ 15 → J1 q = J q) ∧ (∀ t, t < 9 → J1 15 t = lI (setR 2 R t))) := by
  refine Con.of (by decide +kernel) rfl (Nat.le_of_ble_eq_true rfl) ?_
  obtain ⟨hs, hw, hR, hT, hWL, hW0, hW, h2⟩ := hL
  obtain ⟨z1, z2, z5, p0, p4, p8⟩ := hT
  obtain ⟨m0, l0, u0⟩ := hR 0 (by decide)
  obtain ⟨m1, l1, u1⟩ := hR 1 (by decide)
  obtain ⟨m2, l2, u2⟩ := hR 2 (by decide)
  obtain ⟨m3, l3, u3⟩ := hR 3 (by decide)
  obtain ⟨m4, l4, u4⟩ := hR 4 (by decide)
  obtain ⟨m5, l5, u5⟩ := hR 5 (by decide)
  obtain ⟨m6, l6, u6⟩ := hR 6 (by decide)
  obtain ⟨m7, l7, u7⟩ := hR 7 (by decide)
  obtain ⟨m8, l8, u8⟩ := hR 8 (by decide)
  have n0 : ¬ lI (R 0) ≤ 0 := fun c => by have := (lI_le (b := 0) ⟨by omega, by omega⟩ ⟨by omega, by omega⟩).mp c; omega
  have n4 : ¬ lI (R 4) ≤ 0 := fun c => by have := (lI_le (b := 0) ⟨by omega, by omega⟩ ⟨by omega, by omega⟩).mp c; omega
  have d3 := Int.mul_ediv_add_emod (R 3) (R 0)
  have c3 := Int.mul_comm (R 0) (R 3 / R 0)
  have r3 := mod_bd (a := R 3) p0
  refine bX3_settle_0 (v1 := nI 1) rfl ?_
  refine bX3_settle_2 (fun c => absurd c (by rw [hs]; decide)) (fun _ => ?_)
  refine bX3_settle_10 (v13 := nI 0) rfl ?_
  refine bX3_settle_14 (fun c => absurd c (by decide)) (fun _ => ?_)
  refine bX3_settle_18 (j24 := 0) (v26 := lI (R 0)) rfl (by decide) m0 (fun c => absurd c n0) (fun _ => ?_)
  refine bX3_settle_33 (j41 := 3) rfl (by decide) ?_
  refine v_X3_38 dX3_settle_44 rfl ⟨rfl, rfl, Nat.le_of_ble_eq_true rfl, Nat.le_of_ble_eq_true rfl⟩ (c_floorDivE (a := R 3) (W := R 0) (z := R 3 / R 0) m3 rfl ⟨by omega, by omega⟩ p0 (by omega) rfl) rfl rfl (Nat.le_of_ble_eq_true rfl) (fun r I1 J1 hp => ?_)
  obtain ⟨rfl, e2', e3'⟩ := hp
  obtain rfl := e2'.symm
  obtain rfl := e3'.symm
  refine bX3_settle_47 (v50 := nI 0) rfl ?_
  refine bX3_settle_52 (fun c => absurd c (by decide)) (fun _ => ?_)
  refine bX3_settle_58 (j67 := 3) (j81 := 0) (v85 := lI (R 3 % R 0)) (v86 := nI 1) rfl (by decide) rfl (by decide) (by decide) (by rw [m3, m0, lI_mul, lI_sub]; congr 1; omega) rfl ?_
  refine bX3_settle_52 (fun _ => ?_) (fun c => absurd (by decide) c)
  refine bX3_settle_92 (v92 := (-1)) rfl ?_
  refine bX3_settle_14 (fun _ => ?_) (fun c => absurd (by decide) c)
  refine bX3_settle_98 (v98 := nI 2) rfl ?_
  refine bX3_settle_2 (fun _ => bX3_settle_104 ⟨rfl, rfl, fun q h => sa_uJ_ne h, fun t ht => ?_⟩) (fun c => absurd (by rw [hs]; decide) c)
  rcases below9 ht with rfl | rfl | rfl | rfl | rfl | rfl | rfl | rfl | rfl
  · simp [sa_uJ_if, setR, m0]
  · simp [sa_uJ_if, setR, m1]
  · simp [sa_uJ_if, setR, m2]
  · simp [sa_uJ_if, setR]
  · simp [sa_uJ_if, setR, m4]
  · simp [sa_uJ_if, setR, m5]
  · simp [sa_uJ_if, setR, m6]
  · simp [sa_uJ_if, setR, m7]
  · simp [sa_uJ_if, setR, m8]
end IP
