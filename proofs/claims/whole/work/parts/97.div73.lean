theorem sa_uJ_if {J : sa_J} {q i k j : Nat} {x : Int64} : sa_uJ J q i x k j = if k = q ∧ j = i then x else J k j := by
  by_cases h : k = q
  · subst h
    by_cases h2 : j = i
    · subst h2; rw [sa_uJ_at, if_pos ⟨rfl, rfl⟩]
    · rw [sa_uJ_off h2, if_neg (fun h => h2 h.2)]
  · rw [sa_uJ_ne h, if_neg (fun h2 => h h2.1)]
theorem sa_uI_if {I : sa_I} {q i k j : Nat} {x : Int32} : sa_uI I q i x k j = if k = q ∧ j = i then x else I k j := by
  by_cases h : k = q
  · subst h
    by_cases h2 : j = i
    · subst h2; rw [sa_uI_at, if_pos ⟨rfl, rfl⟩]
    · rw [sa_uI_off h2, if_neg (fun h => h2 h.2)]
  · rw [sa_uI_ne h, if_neg (fun h2 => h h2.1)]
theorem below9 {t : Nat} (h : t < 9) : t = 0 ∨ t = 1 ∨ t = 2 ∨ t = 3 ∨ t = 4 ∨ t = 5 ∨ t = 6 ∨ t = 7 ∨ t = 8 := by omega
theorem below3 {t : Nat} (h : t < 3) : t = 0 ∨ t = 1 ∨ t = 2 := by omega
/-- the product's place c by longs, degree 3, as both sides sum it -/
def pr3 (X Y T : Nat → Int64) (c : Nat) : Int64 := 0 + X 0 * Y 0 * T c + X 0 * Y 1 * T (3 + c) + X 0 * Y 2 * T (6 + c) + X 1 * Y 0 * T (9 + c) + X 1 * Y 1 * T (12 + c) + X 1 * Y 2 * T (15 + c) + X 2 * Y 0 * T (18 + c) + X 2 * Y 1 * T (21 + c) + X 2 * Y 2 * T (24 + c)
def yq (Y T : Nat → Int64) (c : Nat) : Int64 := match c with
  | 0 => pr3 Y Y T 0 - nrV 3 (mtx 3 Y T) 1 * Y 0 + nrV 3 (mtx 3 Y T) 2
  | 1 => pr3 Y Y T 1 - nrV 3 (mtx 3 Y T) 1 * Y 1 + 0
  | _ => pr3 Y Y T 2 - nrV 3 (mtx 3 Y T) 1 * Y 2 + 0
theorem pr3_congr {X X' Y Y' T T' : Nat → Int64} {c : Nat} (hc : c < 3) (hX : ∀ i, i < 3 → X i = X' i) (hY : ∀ i, i < 3 → Y i = Y' i) (hT : ∀ t, t < 27 → T t = T' t) : pr3 X Y T c = pr3 X' Y' T' c := by
  unfold pr3
  rw [hX 0 (by decide), hX 1 (by decide), hX 2 (by decide), hY 0 (by decide), hY 1 (by decide), hY 2 (by decide), hT c (by omega), hT (3 + c) (by omega), hT (6 + c) (by omega), hT (9 + c) (by omega), hT (12 + c) (by omega), hT (15 + c) (by omega), hT (18 + c) (by omega), hT (21 + c) (by omega), hT (24 + c) (by omega)]
section D9
variable {l : Launch} {D : va_G} {aI aL : ClassId} {ad : Nat → Nat} {P : sa_P} {I : sa_I} {J : sa_J}
set_option maxHeartbeats 400000 in
theorem c_divide7_3 (hd : I 0 1 = nI 3) : Con (ER l D aI aL ad) M_X7_divide yX7_divide [.ref (ad 0)] I J (fun r I1 J1 => I1 = I ∧ (∀ q, q ≠ 9 → q ≠ 10 → q ≠ 11 → q ≠ 12 → J1 q = J q) ∧ if ¬ (nrV 3 (mtx 3 (J 11) (J 2)) 0) = 0 ∧ rm (pr3 (J 10) (yq (J 11) (J 2)) (J 2) 0) (nrV 3 (mtx 3 (J 11) (J 2)) 0) = 0 ∧ rm (pr3 (J 10) (yq (J 11) (J 2)) (J 2) 1) (nrV 3 (mtx 3 (J 11) (J 2)) 0) = 0 ∧ rm (pr3 (J 10) (yq (J 11) (J 2)) (J 2) 2) (nrV 3 (mtx 3 (J 11) (J 2)) 0) = 0 then r = some (.int 1) ∧ J1 12 0 = (pr3 (J 10) (yq (J 11) (J 2)) (J 2) 0) / (nrV 3 (mtx 3 (J 11) (J 2)) 0) ∧ J1 12 1 = (pr3 (J 10) (yq (J 11) (J 2)) (J 2) 1) / (nrV 3 (mtx 3 (J 11) (J 2)) 0) ∧ J1 12 2 = (pr3 (J 10) (yq (J 11) (J 2)) (J 2) 2) / (nrV 3 (mtx 3 (J 11) (J 2)) 0) else r = some (.int 0)) := by
  refine Con.of (by decide +kernel) rfl (Nat.le_of_ble_eq_true rfl) ?_
  refine bX7_divide_0 ?_
  refine v_X7_225 dX7_divide_5 rfl ⟨rfl, rfl, Nat.le_of_ble_eq_true rfl, Nat.le_of_ble_eq_true rfl⟩ (c_acts3_11 hd) rfl rfl (Nat.le_of_ble_eq_true rfl) (fun r I1 Ja hp => ?_)
  obtain ⟨rfl, e2, m0, m1, m2, m3, m4, m5, m6, m7, m8, g⟩ := hp
  obtain rfl := e2.symm
  have en : Ja 9 0 * (Ja 9 4 * Ja 9 8 - Ja 9 5 * Ja 9 7) - Ja 9 1 * (Ja 9 3 * Ja 9 8 - Ja 9 5 * Ja 9 6) + Ja 9 2 * (Ja 9 3 * Ja 9 7 - Ja 9 4 * Ja 9 6) = (nrV 3 (mtx 3 (J 11) (J 2)) 0) := by rw [m0, m1, m2, m3, m4, m5, m6, m7, m8]; rfl
  have et : 0 + Ja 9 0 + Ja 9 4 + Ja 9 8 = (nrV 3 (mtx 3 (J 11) (J 2)) 1) := by rw [Int64.zero_add, m0, m4, m8]; rfl
  have em : Ja 9 0 * Ja 9 4 - Ja 9 1 * Ja 9 3 + Ja 9 0 * Ja 9 8 - Ja 9 2 * Ja 9 6 + Ja 9 4 * Ja 9 8 - Ja 9 5 * Ja 9 7 = (nrV 3 (mtx 3 (J 11) (J 2)) 2) := by rw [mid_as, m0, m1, m2, m3, m4, m5, m6, m7, m8]; rfl
  refine bX7_divide_8 ?_
  refine v_X7_193 dX7_divide_9 rfl ⟨rfl, rfl, Nat.le_of_ble_eq_true rfl, Nat.le_of_ble_eq_true rfl⟩ (c_normOf3 hd) rfl rfl (Nat.le_of_ble_eq_true rfl) (fun r I1 J1 hp => ?_)
  obtain ⟨rfl, e2, e3⟩ := hp
  obtain rfl := e2.symm
  obtain rfl := e3.symm
  rw [en]
  refine bX7_divide_12 (fun c => ?_) (fun c => bX7_divide_19 ⟨rfl, fun q h9 _ _ _ => g q h9, by rw [if_neg (fun h => h.1 c)]⟩)
  refine bX7_divide_21 ?_
  refine v_X7_189 dX7_divide_22 rfl ⟨rfl, rfl, Nat.le_of_ble_eq_true rfl, Nat.le_of_ble_eq_true rfl⟩ (c_traceOf3 hd) rfl rfl (Nat.le_of_ble_eq_true rfl) (fun r I1 J1 hp => ?_)
  obtain ⟨rfl, e2, e3⟩ := hp
  obtain rfl := e2.symm
  obtain rfl := e3.symm
  rw [et]
  refine bX7_divide_25 ?_
  refine v_X7_196 dX7_divide_27 rfl ⟨rfl, rfl, Nat.le_of_ble_eq_true rfl, Nat.le_of_ble_eq_true rfl⟩ (c_minorsOf3 hd) rfl rfl (Nat.le_of_ble_eq_true rfl) (fun r I1 J1 hp => ?_)
  obtain ⟨rfl, e2, e3⟩ := hp
  obtain rfl := e2.symm
  obtain rfl := e3.symm
  rw [em]
  have g10 : Ja 10 = J 10 := g 10 (by decide)
  have g11 : Ja 11 = J 11 := g 11 (by decide)
  have g2 : Ja 2 = J 2 := g 2 (by decide)
  refine bX7_divide_30 (v38 := J 10 0) (v46 := J 10 1) (v54 := J 10 2) (by rw [g10]) (by rw [g10]) (by rw [g10]) (fun _ => ?_) (fun c => absurd c (by rw [hd]; decide))
  refine bX7_divide_94 (v95 := nI 0) rfl ?_
  refine bX7_divide_97 (fun c => absurd c (by decide)) (fun _ => ?_)
  refine bX7_divide_103 (j107 := 0) (j113 := 0) (v116 := J 11 0) (v117 := nI 1) rfl rfl (by decide) (by decide) (by rw [g11]) rfl ?_
  refine bX7_divide_97 (fun c => absurd c (by decide)) (fun _ => ?_)
  refine bX7_divide_103 (j107 := 1) (j113 := 1) (v116 := J 11 1) (v117 := nI 2) rfl rfl (by decide) (by decide) (by rw [sa_uJ_ne (by decide), g11]) rfl ?_
  refine bX7_divide_97 (fun c => absurd c (by decide)) (fun _ => ?_)
  refine bX7_divide_103 (j107 := 2) (j113 := 2) (v116 := J 11 2) (v117 := nI 3) rfl rfl (by decide) (by decide) (by rw [sa_uJ_ne (by decide), sa_uJ_ne (by decide), g11]) rfl ?_
  refine bX7_divide_97 (fun _ => ?_) (fun c => absurd (by decide) c)
  refine bX7_divide_123 ?_
  refine v_X7_229 dX7_divide_124 rfl ⟨rfl, rfl, Nat.le_of_ble_eq_true rfl, Nat.le_of_ble_eq_true rfl⟩ (c_product3 hd) rfl rfl (Nat.le_of_ble_eq_true rfl) (fun r I1 Jb hp => ?_)
  obtain ⟨rfl, e2, b0, b1, b2, gb⟩ := hp
  obtain rfl := e2.symm
  have q0 : Jb 12 0 = pr3 (J 11) (J 11) (J 2) 0 := (show Jb 12 0 = pr3 _ _ _ 0 from b0).trans (pr3_congr (by decide) (fun i hi => by rcases below3 hi with rfl | rfl | rfl <;> simp [sa_uJ_if]) (fun i _ => by simp [sa_uJ_if, g11]) (fun t _ => by simp [sa_uJ_if, g2]))
  have q1 : Jb 12 1 = pr3 (J 11) (J 11) (J 2) 1 := (show Jb 12 1 = pr3 _ _ _ 1 from b1).trans (pr3_congr (by decide) (fun i hi => by rcases below3 hi with rfl | rfl | rfl <;> simp [sa_uJ_if]) (fun i _ => by simp [sa_uJ_if, g11]) (fun t _ => by simp [sa_uJ_if, g2]))
  have q2 : Jb 12 2 = pr3 (J 11) (J 11) (J 2) 2 := (show Jb 12 2 = pr3 _ _ _ 2 from b2).trans (pr3_congr (by decide) (fun i hi => by rcases below3 hi with rfl | rfl | rfl <;> simp [sa_uJ_if]) (fun i _ => by simp [sa_uJ_if, g11]) (fun t _ => by simp [sa_uJ_if, g2]))
  have gb11 : Jb 11 = J 11 := by rw [gb 11 (by decide), sa_uJ_ne (by decide), sa_uJ_ne (by decide), sa_uJ_ne (by decide), g11]
  have gb2 : Jb 2 = J 2 := by rw [gb 2 (by decide), sa_uJ_ne (by decide), sa_uJ_ne (by decide), sa_uJ_ne (by decide), g2]
  refine bX7_divide_127 (v128 := nI 0) rfl ?_
  refine bX7_divide_130 (fun c => absurd c (by decide)) (fun _ => ?_)
  refine bX7_divide_136 (j146 := 0) (j154 := 0) rfl (by decide) rfl (by decide) (fun c => absurd rfl c) (fun _ => bX7_divide_164 ?_)
  refine bX7_divide_170 (s1 := 0) (v171 := yq (J 11) (J 2) 0) (v172 := nI 1) (by decide) (by rw [q0, gb11]; rfl) rfl ?_
  refine bX7_divide_130 (fun c => absurd c (by decide)) (fun _ => ?_)
  refine bX7_divide_136 (j146 := 1) (j154 := 1) rfl (by decide) rfl (by decide) (fun _ => bX7_divide_169 ?_) (fun c => absurd c (by decide))
  refine bX7_divide_170 (s1 := 1) (v171 := yq (J 11) (J 2) 1) (v172 := nI 2) (by decide) (by rw [sa_uJ_ne (by decide), q1, sa_uJ_off (by decide), gb11]; rfl) rfl ?_
  refine bX7_divide_130 (fun c => absurd c (by decide)) (fun _ => ?_)
  refine bX7_divide_136 (j146 := 2) (j154 := 2) rfl (by decide) rfl (by decide) (fun _ => bX7_divide_169 ?_) (fun c => absurd c (by decide))
  refine bX7_divide_170 (s1 := 2) (v171 := yq (J 11) (J 2) 2) (v172 := nI 3) (by decide) (by rw [sa_uJ_ne (by decide), sa_uJ_ne (by decide), q2, sa_uJ_off (by decide), sa_uJ_off (by decide), gb11]; rfl) rfl ?_
  refine bX7_divide_130 (fun _ => ?_) (fun c => absurd (by decide) c)
  refine bX7_divide_178 ?_
  refine v_X7_229 dX7_divide_203 rfl ⟨rfl, rfl, Nat.le_of_ble_eq_true rfl, Nat.le_of_ble_eq_true rfl⟩ (c_product3 hd) rfl rfl (Nat.le_of_ble_eq_true rfl) (fun r I1 Jz hp => ?_)
  obtain ⟨rfl, e2, z0, z1, z2, gz⟩ := hp
  obtain rfl := e2.symm
  have w0 : Jz 12 0 = (pr3 (J 10) (yq (J 11) (J 2)) (J 2) 0) := (show Jz 12 0 = pr3 _ _ _ 0 from z0).trans (pr3_congr (by decide) (fun i hi => by rcases below3 hi with rfl | rfl | rfl <;> simp [sa_uJ_if]) (fun i hi => by rcases below3 hi with rfl | rfl | rfl <;> simp [sa_uJ_if]) (fun t _ => by simp [sa_uJ_if, gb2]))
  have w1 : Jz 12 1 = (pr3 (J 10) (yq (J 11) (J 2)) (J 2) 1) := (show Jz 12 1 = pr3 _ _ _ 1 from z1).trans (pr3_congr (by decide) (fun i hi => by rcases below3 hi with rfl | rfl | rfl <;> simp [sa_uJ_if]) (fun i hi => by rcases below3 hi with rfl | rfl | rfl <;> simp [sa_uJ_if]) (fun t _ => by simp [sa_uJ_if, gb2]))
  have w2 : Jz 12 2 = (pr3 (J 10) (yq (J 11) (J 2)) (J 2) 2) := (show Jz 12 2 = pr3 _ _ _ 2 from z2).trans (pr3_congr (by decide) (fun i hi => by rcases below3 hi with rfl | rfl | rfl <;> simp [sa_uJ_if]) (fun i hi => by rcases below3 hi with rfl | rfl | rfl <;> simp [sa_uJ_if]) (fun t _ => by simp [sa_uJ_if, gb2]))
  refine dl_end3 hd c ?_
  rw [w0, w1, w2]
  refine ⟨rfl, ?_, ?_⟩
  · intro q h9 h10 h11 h12; simp only [sa_uJ_ne h12, gz q h12, sa_uJ_ne h10, sa_uJ_ne h11, gb q h12, g q h9]
  · by_cases h0 : rm (pr3 (J 10) (yq (J 11) (J 2)) (J 2) 0) (nrV 3 (mtx 3 (J 11) (J 2)) 0) = 0
    · by_cases h1 : rm (pr3 (J 10) (yq (J 11) (J 2)) (J 2) 1) (nrV 3 (mtx 3 (J 11) (J 2)) 0) = 0
      · by_cases h2 : rm (pr3 (J 10) (yq (J 11) (J 2)) (J 2) 2) (nrV 3 (mtx 3 (J 11) (J 2)) 0) = 0
        · rw [if_pos ⟨c, h0, h1, h2⟩, decide_eq_true h0, decide_eq_true h1, decide_eq_true h2]
          exact ⟨rfl, by rw [sa_uJ_off (by decide), sa_uJ_off (by decide), sa_uJ_at], by rw [sa_uJ_off (by decide), sa_uJ_at], sa_uJ_at⟩
        · rw [if_neg (fun h => h2 h.2.2.2), decide_eq_false h2, Bool.and_false]; rfl
      · rw [if_neg (fun h => h1 h.2.2.1), decide_eq_false h1, Bool.and_false, Bool.false_and]; rfl
    · rw [if_neg (fun h => h0 h.2.1), decide_eq_false h0, Bool.false_and, Bool.false_and]; rfl
end D9
/-! degree 3: Cramer's numbers are those by the other images -/
def tv (x : Nat → Int) : V3 := (x 0, x 1, x 2)
def vk (v : V3) (c : Nat) : Int := match c with | 0 => v.1 | 1 => v.2.1 | _ => v.2.2
theorem pr3_I {X Y T : Nat → Int64} {x y : V3} {s : Nat → Int} (hX : ∀ i, i < 3 → X i = lI (vk x i)) (hY : ∀ i, i < 3 → Y i = lI (vk y i)) (hT : ∀ t, t < 27 → T t = lI (T3 s t)) {c : Nat} (hc : c < 3) : pr3 X Y T c = lI (vk (mu3 s x y) c) := by
  have e0 : (0 : Int64) = lI 0 := rfl
  unfold pr3
  rw [hX 0 (by decide), hX 1 (by decide), hX 2 (by decide), hY 0 (by decide), hY 1 (by decide), hY 2 (by decide), hT c (by omega), hT (3 + c) (by omega), hT (6 + c) (by omega), hT (9 + c) (by omega), hT (12 + c) (by omega), hT (15 + c) (by omega), hT (18 + c) (by omega), hT (21 + c) (by omega), hT (24 + c) (by omega), e0]
  simp only [lI_mul, lI_add]
  congr 1
  obtain ⟨x0, x1, x2⟩ := x
  obtain ⟨y0, y1, y2⟩ := y
  have : c = 0 ∨ c = 1 ∨ c = 2 := by omega
  rcases this with rfl | rfl | rfl
  · show 0 + x0 * y0 * 1 + x0 * y1 * 0 + x0 * y2 * 0 + x1 * y0 * 0 + x1 * y1 * s 0 + x1 * y2 * s 3 + x2 * y0 * 0 + x2 * y1 * s 3 + x2 * y2 * s 6 = x0 * y0 + x1 * y1 * s 0 + (x1 * y2 + x2 * y1) * s 3 + x2 * y2 * s 6
    grind
  · show 0 + x0 * y0 * 0 + x0 * y1 * 1 + x0 * y2 * 0 + x1 * y0 * 1 + x1 * y1 * s 1 + x1 * y2 * s 4 + x2 * y0 * 0 + x2 * y1 * s 4 + x2 * y2 * s 7 = x0 * y1 + x1 * y0 + x1 * y1 * s 1 + (x1 * y2 + x2 * y1) * s 4 + x2 * y2 * s 7
    grind
  · show 0 + x0 * y0 * 0 + x0 * y1 * 0 + x0 * y2 * 1 + x1 * y0 * 0 + x1 * y1 * s 2 + x1 * y2 * s 5 + x2 * y0 * 1 + x2 * y1 * s 5 + x2 * y2 * s 8 = x0 * y2 + x2 * y0 + x1 * y1 * s 2 + (x1 * y2 + x2 * y1) * s 5 + x2 * y2 * s 8
    grind
/-- row j of the matrix of y, place c -/
def ma3 (s : Nat → Int) (y : V3) (j c : Nat) : Int := match j with
  | 0 => vk y c
  | 1 => vk (mu3 s (0, 1, 0) y) c
  | _ => vk (mu3 s (0, 0, 1) y) c
theorem mtx_I {Y T : Nat → Int64} {y : V3} {s : Nat → Int} (hY : ∀ i, i < 3 → Y i = lI (vk y i)) (hT : ∀ t, t < 27 → T t = lI (T3 s t)) {j c : Nat} (hj : j < 3) (hc : c < 3) : mtx 3 Y T (3 * j + c) = lI (ma3 s y j c) := by
  have e0 : (0 : Int64) = lI 0 := rfl
  unfold mtx
  rw [if_neg (by decide), hY 0 (by decide), hY 1 (by decide), hY 2 (by decide), hT (3 * j + c) (by omega), hT (9 + (3 * j + c)) (by omega), hT (18 + (3 * j + c)) (by omega), e0]
  simp only [lI_mul, lI_add]
  congr 1
  obtain ⟨y0, y1, y2⟩ := y
  have hj' : j = 0 ∨ j = 1 ∨ j = 2 := by omega
  have hc' : c = 0 ∨ c = 1 ∨ c = 2 := by omega
  rcases hj' with rfl | rfl | rfl <;> rcases hc' with rfl | rfl | rfl <;> simp only [T3, ma3, vk, mu3] <;> grind
/-- x times y by the rows of y's matrix -/
theorem mu3_rows (s : Nat → Int) (x y : V3) {c : Nat} (hc : c < 3) : vk (mu3 s x y) c = x.1 * ma3 s y 0 c + x.2.1 * ma3 s y 1 c + x.2.2 * ma3 s y 2 c := by
  obtain ⟨x0, x1, x2⟩ := x
  obtain ⟨y0, y1, y2⟩ := y
  have hc' : c = 0 ∨ c = 1 ∨ c = 2 := by omega
  rcases hc' with rfl | rfl | rfl <;> simp only [ma3, vk, mu3] <;> grind
def adj3 (m : Nat → Nat → Int) (x : V3) (c : Nat) : Int := match c with
  | 0 => x.1 * (m 1 1 * m 2 2 - m 1 2 * m 2 1) - x.2.1 * (m 1 0 * m 2 2 - m 1 2 * m 2 0) + x.2.2 * (m 1 0 * m 2 1 - m 1 1 * m 2 0)
  | 1 => m 0 0 * (x.2.1 * m 2 2 - x.2.2 * m 2 1) - m 0 1 * (x.1 * m 2 2 - x.2.2 * m 2 0) + m 0 2 * (x.1 * m 2 1 - x.2.1 * m 2 0)
  | _ => m 0 0 * (m 1 1 * x.2.2 - m 1 2 * x.2.1) - m 0 1 * (m 1 0 * x.2.2 - m 1 2 * x.1) + m 0 2 * (m 1 0 * x.2.1 - m 1 1 * x.1)
def tr3 (m : Nat → Nat → Int) : Int := m 0 0 + m 1 1 + m 2 2
def mi3 (m : Nat → Nat → Int) : Int := m 0 0 * m 1 1 - m 0 1 * m 1 0 + (m 0 0 * m 2 2 - m 0 2 * m 2 0) + (m 1 1 * m 2 2 - m 1 2 * m 2 1)
def dt3 (m : Nat → Nat → Int) : Int := m 0 0 * (m 1 1 * m 2 2 - m 1 2 * m 2 1) - m 0 1 * (m 1 0 * m 2 2 - m 1 2 * m 2 0) + m 0 2 * (m 1 0 * m 2 1 - m 1 1 * m 2 0)
theorem adj3_sq (m : Nat → Nat → Int) (x : V3) (w : Nat → Int) (hw : ∀ c, c < 3 → w c = x.1 * m 0 c + x.2.1 * m 1 c + x.2.2 * m 2 c) {c : Nat} (hc : c < 3) : adj3 m x c = w 0 * m 0 c + w 1 * m 1 c + w 2 * m 2 c - tr3 m * w c + mi3 m * vk x c := by
  obtain ⟨x0, x1, x2⟩ := x
  have h0 := hw 0 (by decide)
  have h1 := hw 1 (by decide)
  have h2 := hw 2 (by decide)
  dsimp only at h0 h1 h2
  have hc' : c = 0 ∨ c = 1 ∨ c = 2 := by omega
  rcases hc' with rfl | rfl | rfl <;> simp only [adj3, tr3, mi3, vk] <;> rw [h0, h1, h2] <;> generalize m 0 0 = a <;> generalize m 0 1 = b <;> generalize m 0 2 = d <;> generalize m 1 0 = e <;> generalize m 1 1 = f <;> generalize m 1 2 = g <;> generalize m 2 0 = h <;> generalize m 2 1 = i <;> generalize m 2 2 = j <;> grind
/-- y y - t y + m -/
def cof (s : Nat → Int) (y : V3) : V3 := ((mu3 s y y).1 - tr3 (ma3 s y) * y.1 + mi3 (ma3 s y), (mu3 s y y).2.1 - tr3 (ma3 s y) * y.2.1, (mu3 s y y).2.2 - tr3 (ma3 s y) * y.2.2)
theorem mu3_lin (s : Nat → Int) (x y z : V3) (t m : Int) {c : Nat} (hc : c < 3) : vk (mu3 s x (z.1 - t * y.1 + m, z.2.1 - t * y.2.1, z.2.2 - t * y.2.2)) c = vk (mu3 s x z) c - t * vk (mu3 s x y) c + m * vk x c := by
  obtain ⟨x0, x1, x2⟩ := x
  obtain ⟨y0, y1, y2⟩ := y
  obtain ⟨z0, z1, z2⟩ := z
  have hc' : c = 0 ∨ c = 1 ∨ c = 2 := by omega
  rcases hc' with rfl | rfl | rfl <;> simp only [vk, mu3] <;> grind
theorem cof_adj {s : Nat → Int} (h : asc (s 0) (s 1) (s 2) (s 3) (s 4) (s 5) (s 6) (s 7) (s 8) = true) (x y : V3) {c : Nat} (hc : c < 3) : vk (mu3 s x (cof s y)) c = adj3 (ma3 s y) x c := by
  unfold cof
  rw [mu3_lin s x y (mu3 s y y) _ _ hc, ← mu3_assoc h, mu3_rows s (mu3 s x y) y hc, adj3_sq (ma3 s y) x (fun c => vk (mu3 s x y) c) (fun c hc => mu3_rows s x y hc) hc]
  rfl
theorem ab_z3 {X Y T : Nat → Int64} {x y : V3} {s : Nat → Int} (h : asc (s 0) (s 1) (s 2) (s 3) (s 4) (s 5) (s 6) (s 7) (s 8) = true) (hX : ∀ i, i < 3 → X i = lI (vk x i)) (hY : ∀ i, i < 3 → Y i = lI (vk y i)) (hT : ∀ t, t < 27 → T t = lI (T3 s t)) {c : Nat} (hc : c < 3) : abv 3 c (mtx 3 Y T) X = pr3 X (yq Y T) T c := by
  have m0 : mtx 3 Y T 0 = lI (ma3 s y 0 0) := mtx_I (j := 0) (c := 0) hY hT (by decide) (by decide)
  have m1 : mtx 3 Y T 1 = lI (ma3 s y 0 1) := mtx_I (j := 0) (c := 1) hY hT (by decide) (by decide)
  have m2 : mtx 3 Y T 2 = lI (ma3 s y 0 2) := mtx_I (j := 0) (c := 2) hY hT (by decide) (by decide)
  have m3 : mtx 3 Y T 3 = lI (ma3 s y 1 0) := mtx_I (j := 1) (c := 0) hY hT (by decide) (by decide)
  have m4 : mtx 3 Y T 4 = lI (ma3 s y 1 1) := mtx_I (j := 1) (c := 1) hY hT (by decide) (by decide)
  have m5 : mtx 3 Y T 5 = lI (ma3 s y 1 2) := mtx_I (j := 1) (c := 2) hY hT (by decide) (by decide)
  have m6 : mtx 3 Y T 6 = lI (ma3 s y 2 0) := mtx_I (j := 2) (c := 0) hY hT (by decide) (by decide)
  have m7 : mtx 3 Y T 7 = lI (ma3 s y 2 1) := mtx_I (j := 2) (c := 1) hY hT (by decide) (by decide)
  have m8 : mtx 3 Y T 8 = lI (ma3 s y 2 2) := mtx_I (j := 2) (c := 2) hY hT (by decide) (by decide)
  have x0 := hX 0 (by decide)
  have x1 := hX 1 (by decide)
  have x2 := hX 2 (by decide)
  have et : nrV 3 (mtx 3 Y T) 1 = lI (tr3 (ma3 s y)) := by
    show mtx 3 Y T 0 + mtx 3 Y T 4 + mtx 3 Y T 8 = _
    rw [m0, m4, m8, lI_add, lI_add]; rfl
  have em : nrV 3 (mtx 3 Y T) 2 = lI (mi3 (ma3 s y)) := by
    show mtx 3 Y T 0 * mtx 3 Y T 4 - mtx 3 Y T 1 * mtx 3 Y T 3 + (mtx 3 Y T 0 * mtx 3 Y T 8 - mtx 3 Y T 2 * mtx 3 Y T 6) + (mtx 3 Y T 4 * mtx 3 Y T 8 - mtx 3 Y T 5 * mtx 3 Y T 7) = _
    rw [m0, m1, m2, m3, m4, m5, m6, m7, m8]; simp only [lI_mul, lI_add, lI_sub]; rfl
  have e0 : (0 : Int64) = lI 0 := rfl
  have hq : ∀ i, i < 3 → yq Y T i = lI (vk (cof s y) i) := by
    intro i hi
    have hi' : i = 0 ∨ i = 1 ∨ i = 2 := by omega
    rcases hi' with rfl | rfl | rfl
    · show pr3 Y Y T 0 - nrV 3 (mtx 3 Y T) 1 * Y 0 + nrV 3 (mtx 3 Y T) 2 = _
      rw [et, em, pr3_I hY hY hT (by decide), hY 0 (by decide)]; simp only [lI_mul, lI_add, lI_sub]; rfl
    · show pr3 Y Y T 1 - nrV 3 (mtx 3 Y T) 1 * Y 1 + 0 = _
      rw [et, pr3_I hY hY hT (by decide), hY 1 (by decide), e0]; simp only [lI_mul, lI_add, lI_sub, Int.add_zero]; rfl
    · show pr3 Y Y T 2 - nrV 3 (mtx 3 Y T) 1 * Y 2 + 0 = _
      rw [et, pr3_I hY hY hT (by decide), hY 2 (by decide), e0]; simp only [lI_mul, lI_add, lI_sub, Int.add_zero]; rfl
  rw [pr3_I hX hq hT hc, cof_adj h x y hc]
  have hc' : c = 0 ∨ c = 1 ∨ c = 2 := by omega
  rcases hc' with rfl | rfl | rfl
  · show X 0 * (mtx 3 Y T 4 * mtx 3 Y T 8 - mtx 3 Y T 5 * mtx 3 Y T 7) - X 1 * (mtx 3 Y T 3 * mtx 3 Y T 8 - mtx 3 Y T 5 * mtx 3 Y T 6) + X 2 * (mtx 3 Y T 3 * mtx 3 Y T 7 - mtx 3 Y T 4 * mtx 3 Y T 6) = _
    rw [m3, m4, m5, m6, m7, m8, x0, x1, x2]; simp only [lI_mul, lI_add, lI_sub]; rfl
  · show mtx 3 Y T 0 * (X 1 * mtx 3 Y T 8 - X 2 * mtx 3 Y T 7) - mtx 3 Y T 1 * (X 0 * mtx 3 Y T 8 - X 2 * mtx 3 Y T 6) + mtx 3 Y T 2 * (X 0 * mtx 3 Y T 7 - X 1 * mtx 3 Y T 6) = _
    rw [m0, m1, m2, m6, m7, m8, x0, x1, x2]; simp only [lI_mul, lI_add, lI_sub]; rfl
  · show mtx 3 Y T 0 * (mtx 3 Y T 4 * X 2 - mtx 3 Y T 5 * X 1) - mtx 3 Y T 1 * (mtx 3 Y T 3 * X 2 - mtx 3 Y T 5 * X 0) + mtx 3 Y T 2 * (mtx 3 Y T 3 * X 1 - mtx 3 Y T 4 * X 0) = _
    rw [m0, m1, m2, m3, m4, m5, x0, x1, x2]; simp only [lI_mul, lI_add, lI_sub]; rfl
