def wyB (n : Nat) (T : Nat → Int) (p u v : Int) : Bool := decide (p ∣ (T 12 + T 13 * u + (if n = 2 then 0 else T 14 * v) - u * u)) && (decide (n ≠ 3) || (decide (p ∣ (T 15 + T 16 * u + T 17 * v - u * v)) && decide (p ∣ (T 24 + T 25 * u + T 26 * v - v * v))))
theorem wyB_iff {n : Nat} {T : Nat → Int} {p u v : Int} : wyB n T p u v = true ↔ wy n T p u v := by
  unfold wyB wy
  rw [Bool.and_eq_true, Bool.or_eq_true, Bool.and_eq_true, decide_eq_true_eq, decide_eq_true_eq, decide_eq_true_eq, decide_eq_true_eq]
  refine and_congr Iff.rfl ⟨fun h e => h.resolve_left (fun q => q e), fun h => ?_⟩
  by_cases c : n = 3
  · exact Or.inr (h c)
  · exact Or.inl c
theorem wyB_no {n : Nat} {T : Nat → Int} {p u v : Int} (h : ¬ wy n T p u v) : wyB n T p u v = false := by
  rw [Bool.eq_false_iff]; exact fun q => h (wyB_iff.mp q)
/-- rows of a prime of degree 1 -/
def prR (p u v : Nat) (t : Nat) : Int := match t with
  | 0 => p | 3 => u | 4 => 1 | 6 => v | 8 => 1 | _ => 0
/-- primes: exponent, degree, rows -/
abbrev PE := Int × Int × (Nat → Int)
def pe (p : Nat) (x : Nat × Nat) : PE := (1, 1, prR p x.1 x.2)
def wv (n : Nat) (T : Nat → Int) (p u V : Nat) : List (Nat × Nat) := ((List.range V).filter (fun v : Nat => wyB n T p (-(u : Int)) (-(v : Int)))).map (fun v => (u, v))
def wm (n p : Nat) : Nat := if n = 2 then 1 else p
def wu (n : Nat) (T : Nat → Int) (p U : Nat) : List (Nat × Nat) := (List.range U).flatMap (fun u => wv n T p u (wm n p))
theorem wv_zero {n : Nat} {T : Nat → Int} {p u : Nat} : wv n T p u 0 = [] := rfl
theorem wv_yes {n : Nat} {T : Nat → Int} {p u V : Nat} (h : wy n T p (-(u : Int)) (-(V : Int))) : wv n T p u (V + 1) = wv n T p u V ++ [(u, V)] := by
  unfold wv; rw [List.range_succ, List.filter_append, List.map_append]; simp [wyB_iff.mpr h]
theorem wv_no {n : Nat} {T : Nat → Int} {p u V : Nat} (h : ¬ wy n T p (-(u : Int)) (-(V : Int))) : wv n T p u (V + 1) = wv n T p u V := by
  unfold wv; rw [List.range_succ, List.filter_append, List.map_append]; simp [wyB_no h]
theorem wu_zero {n : Nat} {T : Nat → Int} {p : Nat} : wu n T p 0 = [] := rfl
theorem wu_succ {n : Nat} {T : Nat → Int} {p U : Nat} : wu n T p (U + 1) = wu n T p U ++ wv n T p U (wm n p) := by
  unfold wu; rw [List.range_succ, List.flatMap_append]; simp
theorem wv_mem {n : Nat} {T : Nat → Int} {p u V : Nat} {x : Nat × Nat} (h : x ∈ wv n T p u V) : x.1 = u ∧ x.2 < V ∧ wy n T p (-(x.1 : Int)) (-(x.2 : Int)) := by
  unfold wv at h
  rw [List.mem_map] at h
  obtain ⟨v, h1, rfl⟩ := h
  rw [List.mem_filter, List.mem_range] at h1
  exact ⟨rfl, h1.1, wyB_iff.mp h1.2⟩
theorem wu_mem {n : Nat} {T : Nat → Int} {p U : Nat} {x : Nat × Nat} (h : x ∈ wu n T p U) : x.1 < U ∧ x.2 < wm n p ∧ wy n T p (-(x.1 : Int)) (-(x.2 : Int)) := by
  unfold wu at h
  rw [List.mem_flatMap] at h
  obtain ⟨u, h1, h2⟩ := h
  obtain ⟨a, b, c⟩ := wv_mem h2
  rw [List.mem_range] at h1
  exact ⟨by omega, b, c⟩
theorem wv_pw {n : Nat} {T : Nat → Int} {p u : Nat} : ∀ V, (wv n T p u V).Pairwise (· ≠ ·) := by
  intro V
  induction V with
  | zero => rw [wv_zero]; exact List.Pairwise.nil
  | succ V ih =>
    by_cases h : wy n T p (-(u : Int)) (-(V : Int))
    · rw [wv_yes h, List.pairwise_append]
      refine ⟨ih, by simp, fun a ha b hb => ?_⟩
      rw [List.mem_singleton] at hb
      have := wv_mem ha
      intro e; rw [e, hb] at this; exact absurd this.2.1 (Nat.lt_irrefl _)
    · rw [wv_no h]; exact ih
theorem wu_pw {n : Nat} {T : Nat → Int} {p : Nat} : ∀ U, (wu n T p U).Pairwise (· ≠ ·) := by
  intro U
  induction U with
  | zero => rw [wu_zero]; exact List.Pairwise.nil
  | succ U ih =>
    rw [wu_succ, List.pairwise_append]
    refine ⟨ih, wv_pw _, fun a ha b hb e => ?_⟩
    have := wu_mem ha
    have h2 := wv_mem hb
    rw [e] at this; omega
theorem wq_pw {n : Nat} {T : Nat → Int} {p u V : Nat} : (wu n T p u ++ wv n T p u V).Pairwise (· ≠ ·) := by
  rw [List.pairwise_append]
  refine ⟨wu_pw _, wv_pw _, fun a ha b hb e => ?_⟩
  have := wu_mem ha
  have h2 := wv_mem hb
  rw [e] at this; omega
theorem wl_len {n : Nat} {T : Nat → Int} (rr : Rg n T) {p : Nat} (hp : Prm p) {L : List (Nat × Nat)} (hd : L.Pairwise (· ≠ ·)) (hw : ∀ x ∈ L, x.1 < p ∧ x.2 < wm n p ∧ wy n T p (-(x.1 : Int)) (-(x.2 : Int))) : L.length ≤ n := by
  have h2 := hp.1
  have := ways_len rr hp (L := L.map (fun x => ((x.1 : Int), (x.2 : Int)))) ?_ ?_
  · rw [List.length_map] at this; exact this
  · rw [List.pairwise_map]
    refine hd.imp ?_
    intro a b hab e
    rw [Prod.mk.injEq] at e
    exact hab (Prod.ext (by omega) (by omega))
  · intro x hx
    rw [List.mem_map] at hx
    obtain ⟨y, hy, rfl⟩ := hx
    obtain ⟨a, b, c⟩ := hw y hy
    have hm : wm n p ≤ p := by unfold wm; by_cases c : n = 2 <;> simp only [c, if_true, if_false] <;> omega
    refine ⟨⟨⟨by dsimp only; omega, by dsimp only; omega⟩, by dsimp only; omega, by dsimp only; omega⟩, fun e => ?_, c⟩
    unfold wm at b; rw [if_pos e] at b; dsimp only; omega
theorem wq_len {n : Nat} {T : Nat → Int} (rr : Rg n T) {p u V : Nat} (hp : Prm p) (hu : u < p) (hV : V ≤ wm n p) : (wu n T p u ++ wv n T p u V).length ≤ n := by
  refine wl_len rr hp wq_pw (fun x hx => ?_)
  rw [List.mem_append] at hx
  rcases hx with h | h
  · have := wu_mem h; exact ⟨by omega, this.2.1, this.2.2⟩
  · have := wv_mem h; exact ⟨by omega, by omega, this.2.2⟩
theorem wu_len {n : Nat} {T : Nat → Int} (rr : Rg n T) {p : Nat} (hp : Prm p) : (wu n T p p).length ≤ n := by
  refine wl_len rr hp (wu_pw _) (fun x hx => wu_mem hx)
/-- the class's primes -/
def CS (E : List PE) (I : sa_I) (J : sa_J) : Prop := I 21 0 = nI E.length ∧ ∀ i e, E[i]? = some e → I 22 i = iI e.1 ∧ I 23 i = iI e.2.1 ∧ ∀ t, t < 9 → J 24 (9 * i + t) = lI (e.2.2 t)
theorem Rg.tb {n : Nat} {T : Nat → Int} (r : Rg n T) (t : Nat) : bd (T t) 200 := by
  rcases r with ⟨_, x, y, rfl, bx, by'⟩ | ⟨_, s, rfl, bs, _⟩
  · unfold T2; split <;> first | exact bx | exact bd_mono by' (by decide) | exact ⟨by decide, by decide⟩
  · unfold T3; split <;> first | exact ⟨by decide, by decide⟩ | exact bd_mono (bs _ (by decide)) (by decide)
/-- sums of the test -/
def smv (T v : Nat → Int) (i j : Nat) : Nat → Int
  | 0 => -(v i) * v j
  | k + 1 => smv T v i j k + T (9 * i + 3 * j + k) * v k
theorem smv_bd {T v : Nat → Int} {i j n : Nat} (hi : i < n) (hj : j < n) (bT : ∀ t, bd (T t) 200) (bv : ∀ c, c < n → bd (v c) 97) : ∀ k, k ≤ n → bd (smv T v i j k) (9409 + 19400 * k) := by
  intro k
  induction k with
  | zero => intro _; exact bd_mono (bd_mul (bd_neg (bv i hi)) (bv j hj)) (by decide)
  | succ k ih => intro h; exact bd_mono (bd_add (ih (by omega)) (bd_mul (bT _) (bv k (by omega)))) (by omega)
/-- the values multiply -/
def vmC (n : Nat) (T : Nat → Int) (p : Int) (v : Nat → Int) : Prop := p ∣ smv T v 1 1 n ∧ (n = 3 → p ∣ smv T v 1 2 n ∧ p ∣ smv T v 2 2 n)
theorem vmC_wy {n : Nat} (h0 : n = 2 ∨ n = 3) {T : Nat → Int} {p : Int} {v : Nat → Int} (hv : v 0 = 1) : vmC n T p v ↔ wy n T p (v 1) (v 2) := by
  rcases h0 with rfl | rfl
  · have e : smv T v 1 1 2 = T 12 + T 13 * v 1 + 0 - v 1 * v 1 := by simp only [smv, hv]; grind
    unfold vmC wy
    rw [e]
    exact ⟨fun h => ⟨h.1, fun q => absurd q (by decide)⟩, fun h => ⟨h.1, fun q => absurd q (by decide)⟩⟩
  · have e1 : smv T v 1 1 3 = T 12 + T 13 * v 1 + T 14 * v 2 - v 1 * v 1 := by simp only [smv, hv]; grind
    have e2 : smv T v 1 2 3 = T 15 + T 16 * v 1 + T 17 * v 2 - v 1 * v 2 := by simp only [smv, hv]; grind
    have e3 : smv T v 2 2 3 = T 24 + T 25 * v 1 + T 26 * v 2 - v 2 * v 2 := by simp only [smv, hv]; grind
    unfold vmC wy
    rw [e1, e2, e3]
    exact Iff.rfl
theorem nI_L {p : Nat} (h : p < 2 ^ 31) : (nI p).toInt64 = lI p := iI_lI (z := (p : Int)) ⟨by omega, by omega⟩
theorem nI_negL {p : Nat} (h : p < 2 ^ 31) : (-(nI p)).toInt64 = lI (-(p : Int)) := by
  rw [nI_iI, iI_neg]; exact iI_lI ⟨by omega, by omega⟩
section PR
variable {l : Launch} {D : va_G} {aI aL : ClassId} {ad : Nat → Nat} {P : sa_P} {I : sa_I} {J : sa_J}
theorem vm_sum {n : Nat} (h0 : n = 2 ∨ n = 3) {p : Nat} (hp1 : 2 ≤ p) (hp2 : p ≤ 97) {v T : Nat → Int} (bv : ∀ c, c < n → bd (v c) 97) (bT : ∀ t, bd (T t) 200) (hI : I 4 0 = nI n) (hT : ∀ t, t < 27 → J 8 t = lI (T t)) (hv : ∀ c, c < n → J 25 c = lI (v c)) {i j : Nat} (hi : i < n) (hj : j < n) (kt : (p : Int) ∣ smv T v i j n → Sat (EC l D aI aL ad) M_X5_valuesMultiply P 109 [(0, .ref (ad 21)), (1, .int (nI p)), (2, .int (nI i)), (3, .int (nI j))] [] I J) (kf : ¬ (p : Int) ∣ smv T v i j n → Sat (EC l D aI aL ad) M_X5_valuesMultiply P 107 [] [] I J) : ∀ (d k0 : Nat), k0 + d = n → Sat (EC l D aI aL ad) M_X5_valuesMultiply P 45 [(0, .ref (ad 21)), (1, .int (nI p)), (2, .int (nI i)), (3, .int (nI j)), (4, .long (lI (smv T v i j k0))), (6, .int (nI k0))] [] I J := by
  intro d
  induction d with
  | zero =>
    intro k0 hd
    have hk : k0 = n := by omega
    subst hk
    refine bX5_valuesMultiply_45 (fun _ => ?_) (fun c => absurd (by rw [hI, nJ_le (by omega) (by omega)]; omega) c)
    refine bX5_valuesMultiply_95 ?_
    have bs := smv_bd hi hj bT bv k0 (by omega)
    refine v_X5_83 dX5_valuesMultiply_99 rfl ⟨rfl, rfl, Nat.le_of_ble_eq_true rfl, Nat.le_of_ble_eq_true rfl⟩ (c_rest (a := smv T v i j k0) (W := (p : Int)) (z := smv T v i j k0 % p) rfl (nI_L (by omega)) (bd_rg bs (by omega)) (by omega) (by omega) rfl) rfl rfl (Nat.le_of_ble_eq_true rfl) (fun r I1 J1 hp => ?_)
    obtain ⟨rfl, e2, e3⟩ := hp
    obtain rfl := e2.symm
    obtain rfl := e3.symm
    have m0 := Int.emod_nonneg (smv T v i j k0) (show (p : Int) ≠ 0 by omega)
    have m1 := Int.emod_lt_of_pos (smv T v i j k0) (show (0 : Int) < p by omega)
    have key : (lI (smv T v i j k0 % p) = (0 : Int64)) ↔ (p : Int) ∣ smv T v i j k0 := by
      rw [lI_zero, lI_eq ⟨by omega, by omega⟩ ⟨by omega, by omega⟩]
      exact ⟨fun h => Int.dvd_of_emod_eq_zero h, fun h => Int.emod_eq_zero_of_dvd h⟩
    exact bX5_valuesMultiply_102 (fun c => kt (key.mp c)) (fun c => kf (fun h => c (key.mpr h)))
  | succ d ih =>
    intro k0 hd
    refine bX5_valuesMultiply_45 (fun c => absurd c (by rw [hI, nJ_le (by omega) (by omega)]; omega)) (fun _ => ?_)
    refine bX5_valuesMultiply_57 (j76 := 9 * i + 3 * j + k0) (j82 := k0) (v87 := lI (smv T v i j (k0 + 1))) (v89 := nI (k0 + 1)) ?_ (by omega) rfl (by omega) ?_ (nI_addE k0 1) (ih (k0 + 1) (by omega))
    · rw [nI_lit 9, nI_lit 3, nI_mulE, nI_mulE, nI_addE, nI_addE]
    · rw [hT _ (by omega), hv k0 (by omega), lI_mul, lI_add]; rfl
theorem vm_one {n : Nat} (h0 : n = 2 ∨ n = 3) {p : Nat} (hp1 : 2 ≤ p) (hp2 : p ≤ 97) {v T : Nat → Int} (bv : ∀ c, c < n → bd (v c) 97) (bT : ∀ t, bd (T t) 200) (hI : I 4 0 = nI n) (hT : ∀ t, t < 27 → J 8 t = lI (T t)) (hv : ∀ c, c < n → J 25 c = lI (v c)) {i j : Nat} (hi : i < n) (hj : j < n) (kt : (p : Int) ∣ smv T v i j n → Sat (EC l D aI aL ad) M_X5_valuesMultiply P 109 [(0, .ref (ad 21)), (1, .int (nI p)), (2, .int (nI i)), (3, .int (nI j))] [] I J) (kf : ¬ (p : Int) ∣ smv T v i j n → Sat (EC l D aI aL ad) M_X5_valuesMultiply P 107 [] [] I J) : Sat (EC l D aI aL ad) M_X5_valuesMultiply P 26 [(0, .ref (ad 21)), (1, .int (nI p)), (2, .int (nI i)), (3, .int (nI j))] [] I J := by
  refine bX5_valuesMultiply_26 (j30 := i) (j37 := j) (v40 := lI (smv T v i j 0)) (v43 := nI 0) rfl (by omega) rfl (by omega) ?_ rfl (vm_sum h0 hp1 hp2 bv bT hI hT hv hi hj kt kf n 0 (by omega))
  rw [hv i hi, hv j hj, lI_neg, lI_mul]; rfl
theorem c_valuesMultiply {n : Nat} (h0 : n = 2 ∨ n = 3) {p : Nat} (hp1 : 2 ≤ p) (hp2 : p ≤ 97) {v T : Nat → Int} (bv : ∀ c, c < n → bd (v c) 97) (bT : ∀ t, bd (T t) 200) (hI : I 4 0 = nI n) (hT : ∀ t, t < 27 → J 8 t = lI (T t)) (hv : ∀ c, c < n → J 25 c = lI (v c)) : Con (EC l D aI aL ad) M_X5_valuesMultiply yX5_valuesMultiply [.ref (ad 21), .int (nI p)] I J (fun r I1 J1 => I1 = I ∧ J1 = J ∧ bP (vmC n T p v) r) := by
  refine Con.of (by decide +kernel) rfl (Nat.le_of_ble_eq_true rfl) ?_
  rcases h0 with rfl | rfl
  · refine bX5_valuesMultiply_0 (v1 := nI 1) rfl (bX5_valuesMultiply_2 (fun c => absurd c (by rw [hI]; decide)) (fun _ => bX5_valuesMultiply_13 (bX5_valuesMultiply_15 (fun c => absurd c (by rw [hI]; decide)) (fun _ => ?_))))
    refine vm_one (Or.inl rfl) hp1 hp2 bv bT hI hT hv (i := 1) (j := 1) (by decide) (by decide) (fun c1 => ?_) (fun c1 => bX5_valuesMultiply_107 ⟨rfl, rfl, Or.inr ⟨fun h => c1 h.1, rfl⟩⟩)
    refine bX5_valuesMultiply_109 (v109 := nI 2) rfl (bX5_valuesMultiply_15 (fun _ => ?_) (fun c => absurd (by rw [hI]; decide) c))
    refine bX5_valuesMultiply_115 (v115 := nI 2) rfl (bX5_valuesMultiply_2 (fun _ => ?_) (fun c => absurd (by rw [hI]; decide) c))
    exact bX5_valuesMultiply_121 ⟨rfl, rfl, Or.inl ⟨⟨c1, fun q => absurd q (by decide)⟩, rfl⟩⟩
  · refine bX5_valuesMultiply_0 (v1 := nI 1) rfl (bX5_valuesMultiply_2 (fun c => absurd c (by rw [hI]; decide)) (fun _ => bX5_valuesMultiply_13 (bX5_valuesMultiply_15 (fun c => absurd c (by rw [hI]; decide)) (fun _ => ?_))))
    refine vm_one (Or.inr rfl) hp1 hp2 bv bT hI hT hv (i := 1) (j := 1) (by decide) (by decide) (fun c1 => ?_) (fun c1 => bX5_valuesMultiply_107 ⟨rfl, rfl, Or.inr ⟨fun h => c1 h.1, rfl⟩⟩)
    refine bX5_valuesMultiply_109 (v109 := nI 2) rfl (bX5_valuesMultiply_15 (fun c => absurd c (by rw [hI]; decide)) (fun _ => ?_))
    refine vm_one (Or.inr rfl) hp1 hp2 bv bT hI hT hv (i := 1) (j := 2) (by decide) (by decide) (fun c2 => ?_) (fun c2 => bX5_valuesMultiply_107 ⟨rfl, rfl, Or.inr ⟨fun h => c2 (h.2 rfl).1, rfl⟩⟩)
    refine bX5_valuesMultiply_109 (v109 := nI 3) rfl (bX5_valuesMultiply_15 (fun _ => ?_) (fun c => absurd (by rw [hI]; decide) c))
    refine bX5_valuesMultiply_115 (v115 := nI 2) rfl (bX5_valuesMultiply_2 (fun c => absurd c (by rw [hI]; decide)) (fun _ => bX5_valuesMultiply_13 (bX5_valuesMultiply_15 (fun c => absurd c (by rw [hI]; decide)) (fun _ => ?_))))
    refine vm_one (Or.inr rfl) hp1 hp2 bv bT hI hT hv (i := 2) (j := 2) (by decide) (by decide) (fun c3 => ?_) (fun c3 => bX5_valuesMultiply_107 ⟨rfl, rfl, Or.inr ⟨fun h => c3 (h.2 rfl).2, rfl⟩⟩)
    refine bX5_valuesMultiply_109 (v109 := nI 3) rfl (bX5_valuesMultiply_15 (fun _ => ?_) (fun c => absurd (by rw [hI]; decide) c))
    refine bX5_valuesMultiply_115 (v115 := nI 3) rfl (bX5_valuesMultiply_2 (fun _ => ?_) (fun c => absurd (by rw [hI]; decide) c))
    exact bX5_valuesMultiply_121 ⟨rfl, rfl, Or.inl ⟨⟨c1, fun _ => ⟨c2, c3⟩⟩, rfl⟩⟩
def kmF (I I1 : sa_I) (J J1 : sa_J) : Prop := (∀ q, q ≠ 14 → q ≠ 21 → q ≠ 22 → q ≠ 23 → I1 q = I q) ∧ (∀ t, t ≠ 0 → I1 21 t = I 21 t) ∧ ∀ q, q ≠ 14 → q ≠ 15 → q ≠ 24 → J1 q = J q
theorem kmF.rfl' : kmF I I J J := ⟨fun _ _ _ _ _ => rfl, fun _ _ => rfl, fun _ _ _ _ => rfl⟩
theorem kmF.tr {I1 I2 : sa_I} {J1 J2 : sa_J} (h : kmF I I1 J J1) (g : kmF I1 I2 J1 J2) : kmF I I2 J J2 := ⟨fun q a b c d => (g.1 q a b c d).trans (h.1 q a b c d), fun t ht => (g.2.1 t ht).trans (h.2.1 t ht), fun q a b c => (g.2.2 q a b c).trans (h.2.2 q a b c)⟩
theorem c_keepMade {E0 : List PE} {x y : Int} {R : Nat → Int} (hE : E0.length ≤ 2) (hC : CS E0 I J) (hR : ∀ t, t < 9 → J 15 t = lI (R t)) : Con (EC l D aI aL ad) M_X5_keepMade yX5_keepMade [.ref (ad 21), .int (iI x), .int (iI y)] I J (fun r I1 J1 => r = none ∧ CS (E0 ++ [(x, y, R)]) I1 J1 ∧ kmF I I1 J J1) := by
  refine Con.of (by decide +kernel) rfl (Nat.le_of_ble_eq_true rfl) ?_
  obtain ⟨h0, hc⟩ := hC
  refine bX5_keepMade_0 (fun _ => ?_) (fun c => absurd (by rw [h0, nI_lit 2, nJ_le (by omega) (by omega)]; exact hE) c)
  refine bX5_keepMade_9 (j14 := E0.length) (j24 := E0.length) h0 (by omega) (by rw [sa_uI_ne (by decide)]; exact h0) (by omega) ?_
  have e9 : (9 : Int32) * ((sa_uI (sa_uI I 22 E0.length (iI x)) 23 E0.length (iI y)) 21 0) = nI (9 * E0.length) := by
    rw [sa_uI_ne (by decide), sa_uI_ne (by decide), h0, nI_lit 9, nI_mulE]
  rw [e9]
  refine s_copy (n0 := 9) (sp := 0) (dp := 9 * E0.length) (n := 9) (n' := 27) aJ_C15 aJ_C24 dX5_keepMade_53 (by decide +kernel) (Nat.le_of_ble_eq_true rfl) (Nat.le_of_ble_eq_true rfl) (by decide) (by omega) (by decide) (by decide) (by omega) ?_
  refine bX5_keepMade_56 (v63 := nI (E0.length + 1)) ?_ ⟨rfl, ⟨?_, fun i e he => ?_⟩, ⟨fun q _ h1 h2 h3 => ?_, fun t ht => ?_, fun q _ _ h3 => ?_⟩⟩
  · rw [sa_uI_ne (by decide), sa_uI_ne (by decide), h0]; exact nI_addE _ 1
  · rw [sa_uI_at, List.length_append]; rfl
  · have hlt : i < E0.length + 1 := by
      have := (List.getElem?_eq_some_iff.mp he).1
      rw [List.length_append] at this; exact this
    have r22 : ∀ z, (sa_uI (sa_uI (sa_uI I 22 E0.length (iI x)) 23 E0.length (iI y)) 21 0 z) 22 i = if i = E0.length then iI x else I 22 i := by intro z; simp [sa_uI_if]
    have r23 : ∀ z, (sa_uI (sa_uI (sa_uI I 22 E0.length (iI x)) 23 E0.length (iI y)) 21 0 z) 23 i = if i = E0.length then iI y else I 23 i := by intro z; simp [sa_uI_if]
    rw [r22, r23, sa_rJ_eq]
    by_cases c : i < E0.length
    · rw [List.getElem?_append_left c] at he
      obtain ⟨a1, a2, a3⟩ := hc i e he
      refine ⟨by rw [if_neg (by omega)]; exact a1, by rw [if_neg (by omega)]; exact a2, fun t ht => ?_⟩
      unfold va_cpy; rw [if_neg (by omega)]; exact a3 t ht
    · have : i = E0.length := by omega
      subst this
      rw [List.getElem?_append_right (Nat.le_refl _), Nat.sub_self] at he
      have he' : (x, y, R) = e := by simpa using he
      subst he'
      refine ⟨by rw [if_pos rfl], by rw [if_pos rfl], fun t ht => ?_⟩
      unfold va_cpy; rw [if_pos ⟨by omega, by omega⟩, show 0 + (9 * E0.length + t - 9 * E0.length) = t by omega]; exact hR t ht
  · rw [sa_uI_ne h1, sa_uI_ne h3, sa_uI_ne h2]
  · rw [sa_uI_if, if_neg (by omega), sa_uI_ne (by decide), sa_uI_ne (by decide)]
  · rw [sa_rJ_ne h3]
theorem c_keepIfTrue {n : Nat} {T : Nat → Int} (rr : Rg n T) {p u w : Nat} (hp1 : 2 ≤ p) (hp2 : p ≤ 97) (hu : u < p) (hw : w < p) {v : Nat → Int} (v0 : v 0 = 1) (bv : ∀ c, c < n → bd (v c) 97) (d1 : (p : Int) ∣ (v 1 - -(u : Int))) (d2 : (p : Int) ∣ (v 2 - -(w : Int))) (hI : I 4 0 = nI n) (hT : ∀ t, t < 27 → J 8 t = lI (T t)) (hv : ∀ c, c < n → J 25 c = lI (v c)) {E0 : List PE} (hE : E0.length ≤ 3) (hE2 : wy n T p (-(u : Int)) (-(w : Int)) → E0.length ≤ 2) (hC : CS E0 I J) : Con (EC l D aI aL ad) M_X5_keepIfTrue yX5_keepIfTrue [.ref (ad 21), .int (nI p), .int (nI u), .int (nI w)] I J (fun r I1 J1 => r = none ∧ kmF I I1 J J1 ∧ ((wy n T p (-(u : Int)) (-(w : Int)) ∧ CS (E0 ++ [pe p (u, w)]) I1 J1) ∨ (¬ wy n T p (-(u : Int)) (-(w : Int)) ∧ CS E0 I1 J1))) := by
  refine Con.of (by decide +kernel) rfl (Nat.le_of_ble_eq_true rfl) ?_
  have h0 := rr.n
  refine bX5_keepIfTrue_0 (fun c => bX5_keepIfTrue_16 ⟨rfl, kmF.rfl', Or.inr ⟨fun h => ?_, hC⟩⟩) (fun c => ?_)
  · rw [hC.1, nI_lit 2, nJ_lt (by omega) (by omega)] at c
    have := hE2 h
    omega
  refine bX5_keepIfTrue_8 ?_
  refine v_X5_93 dX5_keepIfTrue_10 rfl ⟨rfl, rfl, Nat.le_of_ble_eq_true rfl, Nat.le_of_ble_eq_true rfl⟩ (c_valuesMultiply h0 hp1 hp2 bv rr.tb hI hT hv) rfl rfl (Nat.le_of_ble_eq_true rfl) (fun r I1 J1 hp => ?_)
  obtain ⟨e2, e3, hr⟩ := hp
  obtain rfl := e2.symm
  obtain rfl := e3.symm
  have key : vmC n T p v ↔ wy n T p (-(u : Int)) (-(w : Int)) := (vmC_wy h0 v0).trans (wy_mod d1 d2)
  rcases hr with ⟨a, rfl⟩ | ⟨a, rfl⟩
  · refine bX5_keepIfTrue_13 (fun _ => ?_) (fun c => absurd c (by decide))
    have hwy := key.mp a
    refine bX5_keepIfTrue_17 ?_
    rw [hI]
    refine v_X5_56 dX5_keepIfTrue_32 rfl ⟨rfl, rfl, Nat.le_of_ble_eq_true rfl, Nat.le_of_ble_eq_true rfl⟩ (c_startMultiples (m := 1) h0 (by decide) (by decide)) rfl rfl (Nat.le_of_ble_eq_true rfl) (fun r I2 J2 hp => ?_)
    obtain ⟨rfl, sI, sJ, hL⟩ := hp
    refine bX5_keepIfTrue_35 (v48 := lI p) (v62 := lI u) (v77 := lI w) (nI_L (by omega)) (nI_L (by omega)) (nI_L (by omega)) ?_
    have hC2 : CS E0 I2 (sa_uJ (sa_uJ (sa_uJ J2 15 0 (lI p)) 15 3 (lI u)) 15 6 (lI w)) := by
      refine ⟨by rw [sI 21 (by decide)]; exact hC.1, fun i e he => ?_⟩
      rw [sI 22 (by decide), sI 23 (by decide), sa_uJ_ne (by decide), sa_uJ_ne (by decide), sa_uJ_ne (by decide), sJ 24 (by decide) (by decide)]
      exact hC.2 i e he
    have hR2 : ∀ t, t < 9 → (sa_uJ (sa_uJ (sa_uJ J2 15 0 (lI p)) 15 3 (lI u)) 15 6 (lI w)) 15 t = lI (prR p u w t) := by
      intro t ht
      have q := (hL.2.2.1 t ht).1
      have s8 : smR n 1 8 = 1 := by show (if n = 2 then (1 : Int) else 1) = 1; by_cases c : n = 2 <;> simp [c]
      rcases below9 ht with rfl | rfl | rfl | rfl | rfl | rfl | rfl | rfl | rfl <;> simp only [sa_uJ_if] <;> simp only [prR] <;> first | rfl | (rw [if_neg (by decide), if_neg (by decide), if_neg (by decide), q]; first | rfl | rw [s8])
    refine v_X5_62 dX5_keepIfTrue_81 rfl ⟨rfl, rfl, Nat.le_of_ble_eq_true rfl, Nat.le_of_ble_eq_true rfl⟩ (c_keepMade (x := 1) (y := 1) (hE2 hwy) hC2 hR2) rfl rfl (Nat.le_of_ble_eq_true rfl) (fun r I3 J3 hp => ?_)
    obtain ⟨rfl, hC3, F3⟩ := hp
    refine bX5_keepIfTrue_84 ⟨rfl, ⟨fun q a b c d => ?_, fun t ht => ?_, fun q a b c => ?_⟩, Or.inl ⟨hwy, hC3⟩⟩
    · rw [F3.1 q a b c d, sI q a]
    · rw [F3.2.1 t ht, sI 21 (by decide)]
    · rw [F3.2.2 q a b c, sa_uJ_ne b, sa_uJ_ne b, sa_uJ_ne b, sJ q a b]
  · exact bX5_keepIfTrue_13 (fun c => absurd rfl c) (fun _ => bX5_keepIfTrue_16 ⟨rfl, kmF.rfl', Or.inr ⟨fun h => a (key.mpr h), hC⟩⟩)
end PR
