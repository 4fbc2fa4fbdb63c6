theorem quoBd {x a c B : Int} (ha : 0 < a) (h : x = a * c) (hx : bd x (a * B)) : bd c B := by
  have h1 := hx.1
  have h2 := hx.2
  rw [h] at h1 h2
  constructor
  · have : a * (-B) ≤ a * c := by rw [Int.mul_neg]; exact h1
    exact Int.le_of_mul_le_mul_left this ha
  · exact Int.le_of_mul_le_mul_left h2 ha
/-- a step keeps the bound -/
theorem stp_bd {D B : Int} (hD : DOK D) (hB : 10000 ≤ B) {f : F3} (h : FI D f) (hn : D < 0 → 0 < f.1) (hf : bdF f B) : bdF (stpF D f) B ∧ FI D (stpF D f) ∧ (D < 0 → 0 < (stpF D f).1) := by
  have d1 := hD.1
  have d2 := hD.2.1
  have nz : D ≠ 0 := fun q => hD.nsq 0 (by rw [q]; rfl)
  have hr := rt_of hD
  obtain ⟨ba, bb, bc⟩ := hf
  by_cases c : 0 < D
  · have e : stpF D f = nxF D (rtZ D) f := by unfold stpF; rw [if_pos c]
    rw [e]
    have hF := nxF_FI hD h (rtZ D)
    refine ⟨⟨bc, ?_, ?_⟩, hF, fun q => absurd q (by omega)⟩
    · by_cases k : ((f.2.2.natAbs : Nat) : Int) * ((f.2.2.natAbs : Nat) : Int) < D
      · obtain ⟨g1, g2, g3⟩ := nx_small hD c h k
        exact ⟨by omega, by omega⟩
      · have c0 := h.2.2
        have m0 := Int.emod_nonneg (-f.2.1) (show 2 * ((f.2.2.natAbs : Nat) : Int) ≠ 0 by omega)
        have m1 := Int.emod_lt_of_pos (-f.2.1) (show 0 < 2 * ((f.2.2.natAbs : Nat) : Int) by omega)
        have b1 := bc.1
        have b2 := bc.2
        show bd (nxB D (rtZ D) f.2.1 f.2.2) B
        unfold nxB
        rw [if_neg k]
        by_cases k2 : ((f.2.2.natAbs : Nat) : Int) < -f.2.1 % (2 * ((f.2.2.natAbs : Nat) : Int))
        · rw [if_pos k2]; exact ⟨by omega, by omega⟩
        · rw [if_neg k2]; exact ⟨by omega, by omega⟩
    · by_cases k : ((f.2.2.natAbs : Nat) : Int) * ((f.2.2.natAbs : Nat) : Int) < D
      · obtain ⟨g1, g2, g3⟩ := nx_small hD c h k
        have e := hF.1
        have e1 : (nxF D (rtZ D) f).1 = f.2.2 := rfl
        rw [e1] at e
        have c0 := h.2.2
        generalize (nxF D (rtZ D) f).2.1 = b at *
        generalize (nxF D (rtZ D) f).2.2 = c' at *
        have q := sq_le_of (x := b) (s := 68) (by omega) (by omega)
        have q0 := sq_nn b
        have e5 : ((4 * f.2.2 * c').natAbs : Int) = 4 * ((f.2.2.natAbs : Nat) : Int) * ((c'.natAbs : Nat) : Int) := by rw [Int.natAbs_mul, Int.natAbs_mul]; push_cast; rfl
        have m : 4 * ((c'.natAbs : Nat) : Int) ≤ 4 * ((f.2.2.natAbs : Nat) : Int) * ((c'.natAbs : Nat) : Int) := by
          have : 4 * ((c'.natAbs : Nat) : Int) * 1 ≤ 4 * ((c'.natAbs : Nat) : Int) * ((f.2.2.natAbs : Nat) : Int) := Int.mul_le_mul_of_nonneg_left (by omega) (by omega)
          have e6 : 4 * ((c'.natAbs : Nat) : Int) * ((f.2.2.natAbs : Nat) : Int) = 4 * ((f.2.2.natAbs : Nat) : Int) * ((c'.natAbs : Nat) : Int) := by grind
          omega
        have : ((4 * f.2.2 * c').natAbs : Int) ≤ 10000 := by omega
        exact ⟨by omega, by omega⟩
      · have q := nx_big c hD h k
        have b1 := bc.1
        have b2 := bc.2
        exact ⟨by omega, by omega⟩
  · have dn : D < 0 := by omega
    have a0 := hn dn
    obtain ⟨⟨g1, g2⟩, _⟩ := trn_of dn h a0
    rw [stp_neg dn]
    refine ⟨?_, g1, fun _ => g2⟩
    obtain ⟨⟨b1, b2⟩, _⟩ := nrm_of (b := f.2.1) a0
    have e := trn_c h a0
    have a1 := ba.2
    unfold trnF
    generalize nrmB f.1 f.2.1 = b at *
    dsimp only
    generalize (b * b - D).tdiv (4 * f.1) = c1 at *
    have q := sq_le_of (x := b) (s := f.1) (by omega) b2
    have q0 := sq_nn b
    have bc1 : bd c1 B := by
      refine quoBd (x := b * b - D) (a := 4 * f.1) (by omega) (by omega) ⟨?_, ?_⟩
      · have : 0 ≤ 4 * f.1 * B := Int.mul_nonneg (by omega) (by omega)
        omega
      · have m1 : f.1 * f.1 ≤ f.1 * B := Int.mul_le_mul_of_nonneg_left a1 (by omega)
        have m2 : 1 * B ≤ f.1 * B := Int.mul_le_mul_of_nonneg_right (by omega) (by omega)
        have e4 : 4 * f.1 * B = 4 * (f.1 * B) := by rw [Int.mul_assoc]
        omega
    by_cases k : c1 < f.1 ∨ (f.1 = c1 ∧ b < 0)
    · rw [if_pos k]; exact ⟨bc1, ⟨by show -B ≤ -b; omega, by show -b ≤ B; omega⟩, ba⟩
    · rw [if_neg k]; exact ⟨ba, ⟨by show -B ≤ b; omega, by show b ≤ B; omega⟩, bc1⟩
section GA
variable {l : Launch} {DD : va_G} {aI aL : ClassId} {ad : Nat → Nat} {P : sa_P} {I : sa_I} {J : sa_J}
theorem c_turn {D : Int} {f : F3} (hD : bd D 1200) (hf : bdF f 100000000) (h0 : 0 < f.1) (hm : fmS D f J) : Con (EC l DD aI aL ad) M_X1_turn yX1_turn [.ref (ad 27)] I J (fun r I1 J1 => r = none ∧ I1 = I ∧ fmS D (trnF D f) J1 ∧ ffr J J1) := by
  refine Con.of (by decide +kernel) rfl (Nat.le_of_ble_eq_true rfl) ?_
  obtain ⟨m9, m10, m11, m12, m13⟩ := hm
  obtain ⟨ba, bb, bc⟩ := hf
  obtain ⟨a, b, c⟩ := f
  dsimp only at ba bb bc m11 m12 m13 h0 ⊢
  have gD := bd_rg hD (by decide)
  have ga := bd_rg ba (by decide)
  have a1 := ba.2
  have b2 : bd (2 * a) 200000000 := ⟨by omega, by omega⟩
  obtain ⟨⟨n1, n2⟩, _⟩ := nrm_of (b := b) h0
  have bn : bd (nrmB a b) 100000000 := ⟨by omega, by omega⟩
  have bx := bd_sub (bd_mul bn bn) hD
  have b4 : bd (4 * a) 400000000 := bd_mul (A := 4) ⟨by decide, by decide⟩ ba
  have bcc := tdiv_bd (b := 4 * a) bx
  have gcc := bd_rg bcc (by decide)
  have gn := bd_rg bn (by decide)
  refine bX1_turn_0 (fun _ => bX1_turn_10 ?_) (fun q => absurd (by rw [m11]; exact (lI_lt (a := 0) ⟨by omega, by omega⟩ ga).mpr h0) q)
  rw [m11, m12, show (2 : Int64) = lI 2 from rfl, lI_mul]
  refine v_X1_100 dX1_turn_23 rfl ⟨rfl, rfl, Nat.le_of_ble_eq_true rfl, Nat.le_of_ble_eq_true rfl⟩ (c_floorMod (a := b) (b := 2 * a) (bd_rg bb (by decide)) (bd_rg b2 (by decide)) (by omega)) rfl rfl (Nat.le_of_ble_eq_true rfl) (fun r I1 J1 hq => ?_)
  obtain ⟨rfl, e1, e2⟩ := hq
  obtain rfl := e1.symm
  obtain rfl := e2.symm
  have r0 := Int.emod_nonneg b (show 2 * a ≠ 0 by omega)
  have r1 := Int.emod_lt_of_pos b (show 0 < 2 * a by omega)
  have gm : rg (b % (2 * a)) := ⟨by omega, by omega⟩
  have f11 : sa_uJ J 27 12 (lI (b % (2 * a))) 27 11 = lI a := by rw [sa_uJ_off (by decide)]; exact m11
  have f12 : sa_uJ J 27 12 (lI (b % (2 * a))) 27 12 = lI (b % (2 * a)) := sa_uJ_at
  have fr1 : ffr J (sa_uJ J 27 12 (lI (b % (2 * a)))) := ffr.rfl'.u12
  have f9 : sa_uJ J 27 12 (lI (b % (2 * a))) 27 9 = lI D := by rw [sa_uJ_off (by decide)]; exact m9
  have f10 : sa_uJ J 27 12 (lI (b % (2 * a))) 27 10 = lI (rtZ D) := by rw [sa_uJ_off (by decide)]; exact m10
  have go : ∀ {v : Int}, v = nrmB a b → Sat (EC l DD aI aL ad) M_X1_turn (fun r I1 J1 => r = none ∧ I1 = I ∧ fmS D (trnF D (a, b, c)) J1 ∧ ffr J J1) 62 [(0, .ref (ad 27))] [.long (lI v), .ref (ad 27)] I (sa_uJ J 27 12 (lI (b % (2 * a)))) := by
    intro v hv
    subst hv
    generalize sa_uJ J 27 12 (lI (b % (2 * a))) = J0 at f11 f12 fr1 f9 f10
    refine bX1_turn_62 ?_
    have k11 : sa_uJ J0 27 12 (lI (nrmB a b)) 27 11 = lI a := by rw [sa_uJ_off (by decide)]; exact f11
    have k12 : sa_uJ J0 27 12 (lI (nrmB a b)) 27 12 = lI (nrmB a b) := sa_uJ_at
    have k9 : sa_uJ J0 27 12 (lI (nrmB a b)) 27 9 = lI D := by rw [sa_uJ_off (by decide)]; exact f9
    have k10 : sa_uJ J0 27 12 (lI (nrmB a b)) 27 10 = lI (rtZ D) := by rw [sa_uJ_off (by decide)]; exact f10
    have fr2 : ffr J (sa_uJ J0 27 12 (lI (nrmB a b))) := fr1.u12
    rw [k11, k12, k9, show (4 : Int64) = lI 4 from rfl, lI_mul, lI_mul, lI_sub]
    refine v_X1_104 dX1_turn_88 rfl ⟨rfl, rfl, Nat.le_of_ble_eq_true rfl, Nat.le_of_ble_eq_true rfl⟩ (c_partS (bd_rg bx (by decide)) (bd_rg b4 (by decide)) (by omega)) rfl rfl (Nat.le_of_ble_eq_true rfl) (fun r I1 J1 hq => ?_)
    obtain ⟨rfl, e1, e2⟩ := hq
    obtain rfl := e1.symm
    obtain rfl := e2.symm
    generalize sa_uJ J0 27 12 (lI (nrmB a b)) = J1 at k11 k12 k9 k10 fr2
    have e : trnF D (a, b, c) = if (nrmB a b * nrmB a b - D).tdiv (4 * a) < a ∨ (a = (nrmB a b * nrmB a b - D).tdiv (4 * a) ∧ nrmB a b < 0) then ((nrmB a b * nrmB a b - D).tdiv (4 * a), -nrmB a b, a) else (a, nrmB a b, (nrmB a b * nrmB a b - D).tdiv (4 * a)) := rfl
    rw [e]
    generalize (nrmB a b * nrmB a b - D).tdiv (4 * a) = c1 at *
    have t13 : sa_uJ J1 27 13 (lI c1) 27 13 = lI c1 := sa_uJ_at
    have t11 : sa_uJ J1 27 13 (lI c1) 27 11 = lI a := by rw [sa_uJ_off (by decide)]; exact k11
    have t12 : sa_uJ J1 27 13 (lI c1) 27 12 = lI (nrmB a b) := by rw [sa_uJ_off (by decide)]; exact k12
    have t9 : sa_uJ J1 27 13 (lI c1) 27 9 = lI D := by rw [sa_uJ_off (by decide)]; exact k9
    have t10 : sa_uJ J1 27 13 (lI c1) 27 10 = lI (rtZ D) := by rw [sa_uJ_off (by decide)]; exact k10
    have fr3 : ffr J (sa_uJ J1 27 13 (lI c1)) := fr2.u13
    generalize nrmB a b = b' at *
    have swap : (c1 < a ∨ (a = c1 ∧ b' < 0)) → Sat (EC l DD aI aL ad) M_X1_turn (fun r I1 J1 => r = none ∧ I1 = I ∧ fmS D (if c1 < a ∨ (a = c1 ∧ b' < 0) then (c1, -b', a) else (a, b', c1)) J1 ∧ ffr J J1) 127 [(0, .ref (ad 27))] [] I (sa_uJ J1 27 13 (lI c1)) := by
      intro k
      rw [if_pos k]
      refine bX1_turn_127 (v131 := lI a) (v137 := lI c1) (v146 := lI (-b')) t11 t13 (by rw [sa_uJ_off (by decide), t12, lI_neg]) (bX1_turn_154 ⟨rfl, rfl, ⟨?_, ?_, ?_, ?_, ?_⟩, ((fr3.u11).u12).u13⟩)
      · rw [sa_uJ_off (by decide), sa_uJ_off (by decide), sa_uJ_off (by decide)]; exact t9
      · rw [sa_uJ_off (by decide), sa_uJ_off (by decide), sa_uJ_off (by decide)]; exact t10
      · rw [sa_uJ_off (by decide), sa_uJ_off (by decide), sa_uJ_at]
      · rw [sa_uJ_off (by decide), sa_uJ_at]
      · exact sa_uJ_at
    have stay : ¬ (c1 < a ∨ (a = c1 ∧ b' < 0)) → Sat (EC l DD aI aL ad) M_X1_turn (fun r I1 J1 => r = none ∧ I1 = I ∧ fmS D (if c1 < a ∨ (a = c1 ∧ b' < 0) then (c1, -b', a) else (a, b', c1)) J1 ∧ ffr J J1) 154 [] [] I (sa_uJ J1 27 13 (lI c1)) := by
      intro k
      rw [if_neg k]
      exact bX1_turn_154 ⟨rfl, rfl, ⟨t9, t10, t11, t12, t13⟩, fr3⟩
    refine bX1_turn_91 (fun q => swap ?_) (fun q => ?_)
    · rw [t13, t11, lI_lt gcc ga] at q; exact Or.inl q
    rw [t13, t11, lI_lt gcc ga] at q
    refine bX1_turn_106 (fun q2 => stay ?_) (fun q2 => ?_)
    · rw [t13, t11, lI_eq ga gcc] at q2
      rintro (z | z)
      · exact q z
      · exact q2 z.1
    rw [t13, t11, lI_eq ga gcc] at q2
    refine bX1_turn_118 (fun q3 => stay ?_) (fun q3 => swap ?_)
    · rw [t12, show (0 : Int64) = lI 0 from rfl, lI_le ⟨by omega, by omega⟩ gn] at q3
      rintro (z | z)
      · exact q z
      · omega
    · rw [t12, show (0 : Int64) = lI 0 from rfl, lI_le ⟨by omega, by omega⟩ gn] at q3
      exact Or.inr ⟨q2, by omega⟩
  refine bX1_turn_26 (fun q => bX1_turn_58 ?_) (fun q => bX1_turn_42 ?_)
  · rw [f12, f11, lI_le gm ga] at q
    rw [f12]
    exact go (by unfold nrmB; rw [if_neg (by omega)])
  · rw [f12, f11, lI_le gm ga] at q
    rw [f12, f11, show (2 : Int64) = lI 2 from rfl, lI_mul, lI_sub]
    exact go (by unfold nrmB; rw [if_pos (by omega)])
end GA
