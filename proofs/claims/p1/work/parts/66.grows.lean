/-- the reference's search for a wider row: first, then second -/
def gA (W : Q4 → Bool) (f : Q4) (p : Int) : Nat → Int → Option (Option Q4)
  | 0, _ => some none
  | k + 1, x => if ok4 (mxI f f 0 x p) then (if W (mxI f f 0 x p) then some (some (mxI f f 0 x p)) else gA W f p k (x + 1)) else none
def gB (W : Q4 → Bool) (s f : Q4) (p : Int) : Nat → Int → Option (Option Q4)
  | 0, _ => some none
  | k + 1, x => if ok4 (mxI s f (x.tdiv p) (x.tmod p) p) then (if W (mxI s f (x.tdiv p) (x.tmod p) p) then some (some (mxI s f (x.tdiv p) (x.tmod p) p)) else gB W s f p k (x + 1)) else none
def same (J J' : sa_J) : Prop := ∀ q, q ≠ 7 → q ≠ 8 → q ≠ 9 → J' q = J q
section GR
variable {l : Launch} {D : va_G} {aI aL : ClassId} {ad : Nat → Nat} {P : sa_P} {I : sa_I} {J : sa_J}
theorem same.step {J J' J1 J2 : sa_J} (h : same J J') (h1 : ∀ q, q ≠ 7 → J1 q = J' q) (h2 : ∀ q, q ≠ 8 → q ≠ 9 → J2 q = J1 q) : same J J2 := fun q a b c => (h2 q b c).trans ((h1 q a).trans (h q a b c))
theorem at4.of {J J' : sa_J} {q : Nat} {t : Q4} (h : at4 J q t) (e : J' q = J q) : at4 J' q t := by unfold at4; rw [e]; exact h
theorem gr_copy5 {t : Q4} (ht : at4 J 7 t) (k : ∀ J', at4 J' 5 t → (∀ q, q ≠ 5 → J' q = J q) → P (some (.int 1)) I J') : Sat (ER l D aI aL ad) M_X7_grows P 29 [(0, .ref (ad 0))] [] I J := by
  refine bX7_grows_29 (v30 := nI 0) rfl ?_
  refine bX7_grows_31 (fun c => absurd c (by decide)) (fun _ => ?_)
  refine bX7_grows_36 (j40 := 0) (j45 := 0) (v48 := nI 1) rfl rfl (by decide) (by decide) rfl rfl ?_
  refine bX7_grows_31 (fun c => absurd c (by decide)) (fun _ => ?_)
  refine bX7_grows_36 (j40 := 1) (j45 := 1) (v48 := nI 2) rfl rfl (by decide) (by decide) rfl rfl ?_
  refine bX7_grows_31 (fun c => absurd c (by decide)) (fun _ => ?_)
  refine bX7_grows_36 (j40 := 2) (j45 := 2) (v48 := nI 3) rfl rfl (by decide) (by decide) rfl rfl ?_
  refine bX7_grows_31 (fun c => absurd c (by decide)) (fun _ => ?_)
  refine bX7_grows_36 (j40 := 3) (j45 := 3) (v48 := nI 4) rfl rfl (by decide) (by decide) rfl rfl ?_
  refine bX7_grows_31 (fun _ => ?_) (fun c => absurd c (by decide))
  refine bX7_grows_54 (k _ ⟨?_, ?_, ?_, ?_⟩ (fun q h => by simp only [sa_uJ_ne h]))
  · exact ht.1
  · exact ht.2.1
  · exact ht.2.2.1
  · exact ht.2.2.2
theorem gr_copy6 {t : Q4} (ht : at4 J 7 t) (k : ∀ J', at4 J' 6 t → (∀ q, q ≠ 6 → J' q = J q) → P (some (.int 1)) I J') : Sat (ER l D aI aL ad) M_X7_grows P 106 [(0, .ref (ad 0))] [] I J := by
  refine bX7_grows_106 (v107 := nI 0) rfl ?_
  refine bX7_grows_108 (fun c => absurd c (by decide)) (fun _ => ?_)
  refine bX7_grows_113 (j117 := 0) (j122 := 0) (v125 := nI 1) rfl rfl (by decide) (by decide) rfl rfl ?_
  refine bX7_grows_108 (fun c => absurd c (by decide)) (fun _ => ?_)
  refine bX7_grows_113 (j117 := 1) (j122 := 1) (v125 := nI 2) rfl rfl (by decide) (by decide) rfl rfl ?_
  refine bX7_grows_108 (fun c => absurd c (by decide)) (fun _ => ?_)
  refine bX7_grows_113 (j117 := 2) (j122 := 2) (v125 := nI 3) rfl rfl (by decide) (by decide) rfl rfl ?_
  refine bX7_grows_108 (fun c => absurd c (by decide)) (fun _ => ?_)
  refine bX7_grows_113 (j117 := 3) (j122 := 3) (v125 := nI 4) rfl rfl (by decide) (by decide) rfl rfl ?_
  refine bX7_grows_108 (fun _ => ?_) (fun c => absurd c (by decide))
  refine bX7_grows_131 (k _ ⟨?_, ?_, ?_, ?_⟩ (fun q h => by simp only [sa_uJ_ne h]))
  · exact ht.1
  · exact ht.2.1
  · exact ht.2.2.1
  · exact ht.2.2.2
theorem gr_A {n : Nat} {f0 f1 f2 p : Int} {f : Q4} (hp2 : 2 ≤ p) (hp : p ≤ 110) (hpol : pol I n f0 f1 f2) (hf : at4 J 5 f) (of : ok4 f = true) : ∀ (k : Nat) (x : Int) (J' : sa_J), x + k = p → 0 ≤ x → same J J' → gA (wI n f0 f1 f2) f p k x ≠ none → (gA (wI n f0 f1 f2) f p k x = some none → ∀ J2, same J J2 → Sat (ER l D aI aL ad) M_X7_grows P 62 [(0, .ref (ad 0)), (1, .int (iI p))] [] I J2) → (∀ t, gA (wI n f0 f1 f2) f p k x = some (some t) → ∀ J2, at4 J2 5 t → (∀ q, q ≠ 5 → q ≠ 7 → q ≠ 8 → q ≠ 9 → J2 q = J q) → P (some (.int 1)) I J2) → Sat (ER l D aI aL ad) M_X7_grows P 2 [(0, .ref (ad 0)), (1, .int (iI p)), (2, .int (iI x))] [] I J' := by
  have rp : rgi p := ⟨by omega, by omega⟩
  intro k
  induction k with
  | zero =>
    intro x J' hx h0 hs _ k1 _
    obtain rfl : x = p := by omega
    exact bX7_grows_2 (fun _ => k1 rfl J' hs) (fun c => absurd (Int32.le_refl _) c)
  | succ k ih =>
    intro x J' hx h0 hs hne k1 k2
    have rx : rgi x := ⟨by omega, by omega⟩
    refine bX7_grows_2 (fun c => absurd ((iI_le rp rx).mp c) (by omega)) (fun _ => bX7_grows_7 ?_)
    rw [iI_lI rx]
    unfold gA at hne k1 k2
    have ok : ok4 (mxI f f 0 x p) = true := by
      rcases h : ok4 (mxI f f 0 x p) with _ | _
      · rw [h] at hne; exact absurd rfl hne
      · rfl
    simp only [if_pos ok] at hne k1 k2
    refine v_X7_175 dX7_grows_16 rfl ⟨rfl, rfl, Nat.le_of_ble_eq_true rfl, Nat.le_of_ble_eq_true rfl⟩ (c_mixI5 (y := 0) (hf.of (hs 5 (by decide) (by decide) (by decide))) of ⟨by omega, by omega⟩ ⟨by omega, by omega⟩ ⟨by omega, by omega⟩ (by omega)) rfl rfl (Nat.le_of_ble_eq_true rfl) (fun r I1 J1 hp => ?_)
    obtain ⟨rfl, rfl, ht, h7⟩ := hp
    refine bX7_grows_19 (v_X7_179 dX7_grows_20 rfl ⟨rfl, rfl, Nat.le_of_ble_eq_true rfl, Nat.le_of_ble_eq_true rfl⟩ (c_isWholeI hpol ht ok) rfl rfl (Nat.le_of_ble_eq_true rfl) (fun r I1 J2 hp => ?_))
    obtain ⟨rfl, rfl, h89⟩ := hp
    have hs2 := hs.step h7 h89
    rcases hw : wI n f0 f1 f2 (mxI f f 0 x p) with _ | _
    · rw [hw] at hne k1 k2
      refine bX7_grows_23 (fun c => absurd rfl c) (fun _ => bX7_grows_26 (bX7_grows_56 (v56 := iI (x + 1)) (iI_add x 1) (ih (x + 1) J2 (by omega) (by omega) hs2 hne k1 k2)))
    · rw [hw] at hne k1 k2
      refine bX7_grows_23 (fun _ => gr_copy5 (ht.of (h89 7 (by decide) (by decide))) (fun J3 h3 h4 => k2 _ rfl J3 h3 (fun q a b c d => (h4 q a).trans (hs2 q b c d)))) (fun c => absurd c (by decide))
theorem gr_B {n : Nat} {f0 f1 f2 p : Int} {s f : Q4} (hp2 : 2 ≤ p) (hp : p ≤ 110) (hpol : pol I n f0 f1 f2) (hn : n = 3) (hs6 : at4 J 6 s) (os : ok4 s = true) (hf : at4 J 5 f) (of : ok4 f = true) : ∀ (k : Nat) (x : Int) (J' : sa_J), x + k = p * p → 0 ≤ x → same J J' → gB (wI n f0 f1 f2) s f p k x ≠ none → (gB (wI n f0 f1 f2) s f p k x = some none → ∀ J2, same J J2 → P (some (.int 0)) I J2) → (∀ t, gB (wI n f0 f1 f2) s f p k x = some (some t) → ∀ J2, at4 J2 6 t → (∀ q, q ≠ 6 → q ≠ 7 → q ≠ 8 → q ≠ 9 → J2 q = J q) → P (some (.int 1)) I J2) → Sat (ER l D aI aL ad) M_X7_grows P 64 [(0, .ref (ad 0)), (1, .int (iI p)), (2, .int (iI x))] [] I J' := by
  have rp : rgi p := ⟨by omega, by omega⟩
  have bp : bd p 110 := ⟨by omega, by omega⟩
  have bpp := bd_mul bp bp
  have b1 := bpp.1
  have b2 := bpp.2
  have rpp : rgi (p * p) := ⟨by omega, by omega⟩
  intro k
  induction k with
  | zero =>
    intro x J' hx h0 hs _ k1 _
    obtain rfl : x = p * p := by omega
    exact bX7_grows_64 (fun _ => bX7_grows_139 (k1 rfl J' hs)) (fun c => absurd (by rw [iI_mul]; exact Int32.le_refl _) c)
  | succ k ih =>
    intro x J' hx h0 hs hne k1 k2
    have rx : rgi x := ⟨by omega, by omega⟩
    refine bX7_grows_64 (fun c => absurd ((iI_le rpp rx).mp (by rw [← iI_mul]; exact c)) (by omega)) (fun _ => bX7_grows_71 (fun c => absurd (by rw [hpol.1, hn]; rfl) c) (fun _ => bX7_grows_79 (fun c => by have := (iI_eq rp (b := 0) ⟨by omega, by omega⟩).mp c; omega) (fun c => by have := (iI_eq rp (b := 0) ⟨by omega, by omega⟩).mp c; omega) ?_))
    rw [iI_rem rx rp (by omega), iI_div rx rp (by omega)]
    have d1 := Int.tdiv_eq_ediv_of_nonneg (b := p) h0
    have d2 := Int.tmod_eq_emod_of_nonneg (b := p) h0
    have d3 := Int.ediv_nonneg (b := p) h0 (by omega)
    have d4 : x / p ≤ x := Int.ediv_le_self p h0
    have d5 := Int.emod_nonneg x (b := p) (by omega)
    have d6 := Int.emod_lt_of_pos x (b := p) (by omega)
    rw [iI_lI (z := x.tdiv p) (by rw [d1]; exact ⟨by omega, by omega⟩), iI_lI (z := x.tmod p) (by rw [d2]; exact ⟨by omega, by omega⟩)]
    unfold gB at hne k1 k2
    have ok : ok4 (mxI s f (x.tdiv p) (x.tmod p) p) = true := by
      rcases h : ok4 (mxI s f (x.tdiv p) (x.tmod p) p) with _ | _
      · rw [h] at hne; exact absurd rfl hne
      · rfl
    simp only [if_pos ok] at hne k1 k2
    refine v_X7_175 dX7_grows_93 rfl ⟨rfl, rfl, Nat.le_of_ble_eq_true rfl, Nat.le_of_ble_eq_true rfl⟩ (c_mixI6 (hs6.of (hs 6 (by decide) (by decide) (by decide))) os (hf.of (hs 5 (by decide) (by decide) (by decide))) of (by rw [d1]; exact ⟨by omega, by omega⟩) (by rw [d2]; exact ⟨by omega, by omega⟩) ⟨by omega, by omega⟩ (by omega)) rfl rfl (Nat.le_of_ble_eq_true rfl) (fun r I1 J1 hp => ?_)
    obtain ⟨rfl, rfl, ht, h7⟩ := hp
    refine bX7_grows_96 (v_X7_179 dX7_grows_97 rfl ⟨rfl, rfl, Nat.le_of_ble_eq_true rfl, Nat.le_of_ble_eq_true rfl⟩ (c_isWholeI hpol ht ok) rfl rfl (Nat.le_of_ble_eq_true rfl) (fun r I1 J2 hp => ?_))
    obtain ⟨rfl, rfl, h89⟩ := hp
    have hs2 := hs.step h7 h89
    rcases hw : wI n f0 f1 f2 (mxI s f (x.tdiv p) (x.tmod p) p) with _ | _
    · rw [hw] at hne k1 k2
      refine bX7_grows_100 (fun c => absurd rfl c) (fun _ => bX7_grows_103 (bX7_grows_133 (v133 := iI (x + 1)) (iI_add x 1) (ih (x + 1) J2 (by omega) (by omega) hs2 hne k1 k2)))
    · rw [hw] at hne k1 k2
      refine bX7_grows_100 (fun _ => gr_copy6 (ht.of (h89 7 (by decide) (by decide))) (fun J3 h3 h4 => k2 _ rfl J3 h3 (fun q a b c d => (h4 q a).trans (hs2 q b c d)))) (fun c => absurd c (by decide))
/-- one step of growing: whether it grew, and the rows -/
def grI (W : Q4 → Bool) (n : Nat) (f s : Q4) (p : Int) : Option (Bool × Q4 × Q4) :=
  match gA W f p p.toNat 0 with
  | none => none
  | some (some t) => some (true, t, s)
  | some none => if n = 2 then some (false, f, s) else
    match gB W s f p (p.toNat * p.toNat) 0 with
    | none => none
    | some (some t) => some (true, f, t)
    | some none => some (false, f, s)
theorem gA_ok {W : Q4 → Bool} {f t : Q4} {p : Int} : ∀ (k : Nat) (x : Int), gA W f p k x = some (some t) → ok4 t = true := by
  intro k
  induction k with
  | zero => intro x h; exact absurd h (by simp [gA])
  | succ k ih =>
    intro x h
    unfold gA at h
    rcases ho : ok4 (mxI f f 0 x p) with _ | _
    · rw [ho] at h; simp at h
    · rw [ho] at h
      rcases hw : W (mxI f f 0 x p) with _ | _
      · rw [hw] at h; simp at h; exact ih _ h
      · rw [hw] at h; simp at h; rw [← h]; exact ho
theorem gB_ok {W : Q4 → Bool} {s f t : Q4} {p : Int} : ∀ (k : Nat) (x : Int), gB W s f p k x = some (some t) → ok4 t = true := by
  intro k
  induction k with
  | zero => intro x h; exact absurd h (by simp [gB])
  | succ k ih =>
    intro x h
    unfold gB at h
    rcases ho : ok4 (mxI s f (x.tdiv p) (x.tmod p) p) with _ | _
    · rw [ho] at h; simp at h
    · rw [ho] at h
      rcases hw : W (mxI s f (x.tdiv p) (x.tmod p) p) with _ | _
      · rw [hw] at h; simp at h; exact ih _ h
      · rw [hw] at h; simp at h; rw [← h]; exact ho
def grP (I : sa_I) (J : sa_J) (b : Bool) (f s : Q4) : sa_P := fun r I1 J1 => r = some (.int (if b then 1 else 0)) ∧ I1 = I ∧ at4 J1 5 f ∧ at4 J1 6 s ∧ ∀ q, q ≠ 5 → q ≠ 6 → q ≠ 7 → q ≠ 8 → q ≠ 9 → J1 q = J q
theorem c_grows {n : Nat} {f0 f1 f2 p : Int} {f s f' s' : Q4} {b : Bool} (hp2 : 2 ≤ p) (hp : p ≤ 110) (hpol : pol I n f0 f1 f2) (hf : at4 J 5 f) (of : ok4 f = true) (hs : at4 J 6 s) (os : ok4 s = true) (h : grI (wI n f0 f1 f2) n f s p = some (b, f', s')) : Con (ER l D aI aL ad) M_X7_grows yX7_grows [.ref (ad 0), .int (iI p)] I J (grP I J b f' s') ∧ ok4 f' = true ∧ ok4 s' = true := by
  have hn3 : ¬ n = 2 → n = 3 := by
    rcases hpol.2.2.2.2 with ⟨a, _⟩ | ⟨a, _⟩
    · exact fun c => absurd a c
    · exact fun _ => a
  have rp : rgi p := ⟨by omega, by omega⟩
  unfold grI at h
  rcases ha : gA (wI n f0 f1 f2) f p p.toNat 0 with _ | (_ | t)
  · rw [ha] at h; simp at h
  · rw [ha] at h
    simp only at h
    by_cases hn : n = 2
    · rw [if_pos hn] at h
      obtain ⟨rfl, rfl, rfl⟩ : b = false ∧ f' = f ∧ s' = s := by simpa [eq_comm] using h
      refine ⟨Con.of (by decide +kernel) rfl (Nat.le_of_ble_eq_true rfl) (bX7_grows_0 (v1 := iI 0) rfl (gr_A hp2 hp hpol hf of p.toNat 0 J (by omega) (by omega) (fun _ _ _ _ => rfl) (by rw [ha]; simp) (fun _ J2 h2 => ?_) (fun t e => by rw [ha] at e; simp at e))), of, os⟩
      refine bX7_grows_62 (v63 := iI 0) rfl (bX7_grows_64 (fun c => ?_) (fun _ => bX7_grows_71 (fun _ => bX7_grows_139 ⟨rfl, rfl, hf.of (h2 5 (by decide) (by decide) (by decide)), hs.of (h2 6 (by decide) (by decide) (by decide)), fun q _ _ c d e => h2 q c d e⟩) (fun c => ?_)))
      · rw [iI_mul] at c
        have bp : bd p 110 := ⟨by omega, by omega⟩
        have bpp := bd_mul bp bp
        have b1 := bpp.1
        have b2 := bpp.2
        have := (iI_le (a := p * p) (b := 0) ⟨by omega, by omega⟩ ⟨by omega, by omega⟩).mp c
        have : 0 < p * p := Int.mul_pos (by omega) (by omega)
        omega
      · rw [hpol.1, hn] at c; exact absurd c (by decide)
    · rw [if_neg hn] at h
      have hn := hn3 hn
      have hpp : ((p.toNat * p.toNat : Nat) : Int) = p * p := by
        rw [Int.natCast_mul, Int.toNat_of_nonneg (by omega)]
      rcases hb : gB (wI n f0 f1 f2) s f p (p.toNat * p.toNat) 0 with _ | (_ | t)
      · rw [hb] at h; simp at h
      · rw [hb] at h
        obtain ⟨rfl, rfl, rfl⟩ : b = false ∧ f' = f ∧ s' = s := by simpa [eq_comm] using h
        refine ⟨Con.of (by decide +kernel) rfl (Nat.le_of_ble_eq_true rfl) (bX7_grows_0 (v1 := iI 0) rfl (gr_A hp2 hp hpol hf of p.toNat 0 J (by omega) (by omega) (fun _ _ _ _ => rfl) (by rw [ha]; simp) (fun _ J2 h2 => ?_) (fun t e => by rw [ha] at e; simp at e))), of, os⟩
        refine bX7_grows_62 (v63 := iI 0) rfl (gr_B hp2 hp hpol hn hs os hf of (p.toNat * p.toNat) 0 J2 (by omega) (by omega) h2 (by rw [hb]; simp) (fun _ J3 h3 => ⟨rfl, rfl, hf.of (h3 5 (by decide) (by decide) (by decide)), hs.of (h3 6 (by decide) (by decide) (by decide)), fun q _ _ c d e => h3 q c d e⟩) (fun t e => by rw [hb] at e; simp at e))
      · rw [hb] at h
        obtain ⟨rfl, rfl, rfl⟩ : b = true ∧ f' = f ∧ s' = t := by simpa [eq_comm] using h
        refine ⟨Con.of (by decide +kernel) rfl (Nat.le_of_ble_eq_true rfl) (bX7_grows_0 (v1 := iI 0) rfl (gr_A hp2 hp hpol hf of p.toNat 0 J (by omega) (by omega) (fun _ _ _ _ => rfl) (by rw [ha]; simp) (fun _ J2 h2 => ?_) (fun t e => by rw [ha] at e; simp at e))), of, gB_ok _ _ hb⟩
        refine bX7_grows_62 (v63 := iI 0) rfl (gr_B hp2 hp hpol hn hs os hf of (p.toNat * p.toNat) 0 J2 (by omega) (by omega) h2 (by rw [hb]; simp) (fun e => by rw [hb] at e; simp at e) (fun t e J3 h3 h4 => ?_))
        rw [hb] at e
        obtain rfl : s' = t := by simpa using e
        exact ⟨rfl, rfl, hf.of (h4 5 (by decide) (by decide) (by decide) (by decide)), h3, fun q _ a c d e => h4 q a c d e⟩
  · rw [ha] at h
    obtain ⟨rfl, rfl, rfl⟩ : b = true ∧ f' = t ∧ s' = s := by simpa [eq_comm] using h
    refine ⟨Con.of (by decide +kernel) rfl (Nat.le_of_ble_eq_true rfl) (bX7_grows_0 (v1 := iI 0) rfl (gr_A hp2 hp hpol hf of p.toNat 0 J (by omega) (by omega) (fun _ _ _ _ => rfl) (by rw [ha]; simp) (fun e => by rw [ha] at e; simp at e) (fun t e J2 h2 h3 => ?_))), gA_ok _ _ ha, os⟩
    rw [ha] at e
    obtain rfl : f' = t := by simpa using e
    exact ⟨rfl, rfl, h2, hs.of (h3 6 (by decide) (by decide) (by decide) (by decide)), fun q a _ c d e => h3 q a c d e⟩
end GR
