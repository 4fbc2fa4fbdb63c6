/-! degree 3, two ways: just one of them is twice there -/
def cg (p : Int) (x y : V3) : Prop := p ∣ (x.1 - y.1) ∧ p ∣ (x.2.1 - y.2.1) ∧ p ∣ (x.2.2 - y.2.2)
theorem cg.ex {p : Int} {x y : V3} (h : cg p x y) : ∃ t, x = vad y (vmu p t) := by
  obtain ⟨⟨a, ha⟩, ⟨b, hb⟩, ⟨c, hc⟩⟩ := h
  refine ⟨(a, b, c), v3_ext ?_ ?_ ?_⟩ <;> unfold vad vmu <;> dsimp only <;> omega
theorem cg_of {p : Int} {x y t : V3} (h : x = vad y (vmu p t)) : cg p x y := by
  subst h
  refine ⟨⟨t.1, ?_⟩, ⟨t.2.1, ?_⟩, ⟨t.2.2, ?_⟩⟩ <;> unfold vad vmu <;> dsimp only <;> omega
theorem cg.rfl' {p : Int} {x : V3} : cg p x x := ⟨by rw [Int.sub_self]; exact Int.dvd_zero _, by rw [Int.sub_self]; exact Int.dvd_zero _, by rw [Int.sub_self]; exact Int.dvd_zero _⟩
theorem dvd_ng {p a b : Int} (h : p ∣ (a - b)) : p ∣ (b - a) := by have := (Int.dvd_neg).mpr h; rw [Int.neg_sub] at this; exact this
theorem dvd_tr {p a b c : Int} (h : p ∣ (a - b)) (g : p ∣ (b - c)) : p ∣ (a - c) := by have := Int.dvd_add h g; rw [show a - b + (b - c) = a - c by omega] at this; exact this
theorem cg.symm {p : Int} {x y : V3} (h : cg p x y) : cg p y x := ⟨dvd_ng h.1, dvd_ng h.2.1, dvd_ng h.2.2⟩
theorem cg.tr {p : Int} {x y z : V3} (h : cg p x y) (g : cg p y z) : cg p x z := ⟨dvd_tr h.1 g.1, dvd_tr h.2.1 g.2.1, dvd_tr h.2.2 g.2.2⟩
theorem cg.mul {p : Int} {x y : V3} (h : cg p x y) (n : Nat) (T : Nat → Int) (w : V3) : cg p (muv n T w x) (muv n T w y) := by
  obtain ⟨t, rfl⟩ := h.ex
  exact cg_of (t := muv n T w t) (by rw [muv_add, muv_mul])
theorem cg.smul {p : Int} {x y : V3} (h : cg p x y) (k : Int) : cg p (vmu k x) (vmu k y) := by
  obtain ⟨t, rfl⟩ := h.ex
  exact cg_of (t := vmu k t) (by refine v3_ext ?_ ?_ ?_ <;> unfold vad vmu <;> dsimp only <;> grind)
theorem cg.add {p : Int} {x y x' y' : V3} (h : cg p x y) (g : cg p x' y') : cg p (vad x x') (vad y y') := by
  obtain ⟨t, rfl⟩ := h.ex
  obtain ⟨r, rfl⟩ := g.ex
  exact cg_of (t := vad t r) (by refine v3_ext ?_ ?_ ?_ <;> unfold vad vmu <;> dsimp only <;> grind)
theorem cg_scal {p c d : Int} (h : p ∣ (c - d)) (k : V3) : cg p (vmu c k) (vmu d k) := by
  obtain ⟨t, ht⟩ := h
  exact cg_of (t := vmu t k) (by have : c = d + p * t := by omega
                                 subst this
                                 refine v3_ext ?_ ?_ ?_ <;> unfold vad vmu <;> dsimp only <;> grind)
theorem cg_cancel {p : Int} (hp : Prm p) {c d : Int} {k : V3} (hN : ¬ p ∣ k.2.1 ∨ ¬ p ∣ k.2.2) (h : cg p (vmu c k) (vmu d k)) : p ∣ (c - d) := by
  obtain ⟨_, h1, h2⟩ := h
  have e1 : (vmu c k).2.1 - (vmu d k).2.1 = (c - d) * k.2.1 := by unfold vmu; dsimp only; grind
  have e2 : (vmu c k).2.2 - (vmu d k).2.2 = (c - d) * k.2.2 := by unfold vmu; dsimp only; grind
  rw [e1] at h1
  rw [e2] at h2
  rcases hN with g | g
  · exact (hp.2 _ _ h1).resolve_right g
  · exact (hp.2 _ _ h2).resolve_right g
theorem cg_sm3 {p : Int} {x y : V3} (h : cg p x y) (g : Sp (smR 3 p) y) : Sp (smR 3 p) x := by
  rw [Sp_smR (Or.inr rfl)] at g ⊢
  obtain ⟨g0, g1, g2⟩ := g
  have q : ∀ {a b : Int}, p ∣ (a - b) → p ∣ b → p ∣ a := fun h g => by have := Int.dvd_add h g; rw [Int.sub_add_cancel] at this; exact this
  exact ⟨q h.1 g0, q h.2.1 g1, fun _ => q h.2.2 (g2 rfl)⟩
theorem sm3_cg {p : Int} {x : V3} (g : Sp (smR 3 p) x) : cg p x (vmu 0 x) := by
  rw [Sp_smR (Or.inr rfl)] at g
  obtain ⟨g0, g1, g2⟩ := g
  refine ⟨?_, ?_, ?_⟩ <;> unfold vmu <;> dsimp only <;> rw [Int.zero_mul, Int.sub_zero]
  · exact g0
  · exact g1
  · exact g2 rfl
def par (p : Int) (k v : V3) : Prop := p ∣ (k.2.2 * v.2.1 - k.2.1 * v.2.2) ∧ p ∣ (k.2.2 * v.1 - k.1 * v.2.2) ∧ p ∣ (k.2.1 * v.1 - k.1 * v.2.1)
theorem par_span {p : Nat} (hp2 : p ≤ 97) (hq : ipr (p : Int) = true) {k v : V3} (hN : ¬ (p : Int) ∣ k.2.1 ∨ ¬ (p : Int) ∣ k.2.2) (h : par p k v) : ∃ c, cg p v (vmu c k) := by
  obtain ⟨h1, h2, h3⟩ := h
  rcases hN with g | g
  · obtain ⟨e, he⟩ := inv_ex hp2 hq g
    refine ⟨e * v.2.1, ?_, ?_, ?_⟩
    · have := Int.dvd_sub (Int.dvd_mul_of_dvd_right (b := e) h3) (Int.dvd_mul_of_dvd_left (c := v.1) he)
      have q : e * (k.2.1 * v.1 - k.1 * v.2.1) - (e * k.2.1 - 1) * v.1 = v.1 - (vmu (e * v.2.1) k).1 := by unfold vmu; dsimp only; grind
      rw [q] at this; exact this
    · have := (Int.dvd_neg).mpr (Int.dvd_mul_of_dvd_left (c := v.2.1) he)
      have q : -((e * k.2.1 - 1) * v.2.1) = v.2.1 - (vmu (e * v.2.1) k).2.1 := by unfold vmu; dsimp only; grind
      rw [q] at this; exact this
    · have := Int.dvd_sub (Int.dvd_mul_of_dvd_right (b := -e) h1) (Int.dvd_mul_of_dvd_left (c := v.2.2) he)
      have q : -e * (k.2.2 * v.2.1 - k.2.1 * v.2.2) - (e * k.2.1 - 1) * v.2.2 = v.2.2 - (vmu (e * v.2.1) k).2.2 := by unfold vmu; dsimp only; grind
      rw [q] at this; exact this
  · obtain ⟨e, he⟩ := inv_ex hp2 hq g
    refine ⟨e * v.2.2, ?_, ?_, ?_⟩
    · have := Int.dvd_sub (Int.dvd_mul_of_dvd_right (b := e) h2) (Int.dvd_mul_of_dvd_left (c := v.1) he)
      have q : e * (k.2.2 * v.1 - k.1 * v.2.2) - (e * k.2.2 - 1) * v.1 = v.1 - (vmu (e * v.2.2) k).1 := by unfold vmu; dsimp only; grind
      rw [q] at this; exact this
    · have := Int.dvd_sub (Int.dvd_mul_of_dvd_right (b := e) h1) (Int.dvd_mul_of_dvd_left (c := v.2.1) he)
      have q : e * (k.2.2 * v.2.1 - k.2.1 * v.2.2) - (e * k.2.2 - 1) * v.2.1 = v.2.1 - (vmu (e * v.2.2) k).2.1 := by unfold vmu; dsimp only; grind
      rw [q] at this; exact this
    · have := (Int.dvd_neg).mpr (Int.dvd_mul_of_dvd_left (c := v.2.2) he)
      have q : -((e * k.2.2 - 1) * v.2.2) = v.2.2 - (vmu (e * v.2.2) k).2.2 := by unfold vmu; dsimp only; grind
      rw [q] at this; exact this
def kK (a b : Int × Int) : V3 := (a.1 * b.2 - a.2 * b.1, a.2 - b.2, b.1 - a.1)
theorem kK_a (a b : Int × Int) : ph a.1 a.2 (kK a b) = 0 := by unfold ph kK; dsimp only; grind
theorem kK_b (a b : Int × Int) : ph b.1 b.2 (kK a b) = 0 := by unfold ph kK; dsimp only; grind
theorem kK_par {p : Int} {a b : Int × Int} {v : V3} (ha : p ∣ ph a.1 a.2 v) (hb : p ∣ ph b.1 b.2 v) : par p (kK a b) v := by
  refine ⟨?_, ?_, ?_⟩
  · have := Int.dvd_sub hb ha
    have q : ph b.1 b.2 v - ph a.1 a.2 v = (kK a b).2.2 * v.2.1 - (kK a b).2.1 * v.2.2 := by unfold ph kK; dsimp only; grind
    rw [q] at this; exact this
  · have := Int.dvd_sub (Int.dvd_mul_of_dvd_right (b := b.1) ha) (Int.dvd_mul_of_dvd_right (b := a.1) hb)
    have q : b.1 * ph a.1 a.2 v - a.1 * ph b.1 b.2 v = (kK a b).2.2 * v.1 - (kK a b).1 * v.2.2 := by unfold ph kK; dsimp only; grind
    rw [q] at this; exact this
  · have := Int.dvd_sub (Int.dvd_mul_of_dvd_right (b := a.2) hb) (Int.dvd_mul_of_dvd_right (b := b.2) ha)
    have q : a.2 * ph b.1 b.2 v - b.2 * ph a.1 a.2 v = (kK a b).2.1 * v.1 - (kK a b).1 * v.2.1 := by unfold ph kK; dsimp only; grind
    rw [q] at this; exact this
theorem kK_N {p : Int} {a b : Int × Int} (h : oth p a b) : ¬ p ∣ (kK a b).2.1 ∨ ¬ p ∣ (kK a b).2.2 := by
  by_cases c : p ∣ (kK a b).2.1
  · right
    intro d
    exact h ⟨dvd_ng d, c⟩
  · exact Or.inl c
def wp (x : Nat × Nat) : Int × Int := (-(x.1 : Int), -(x.2 : Int))
theorem two_core {s : Nat → Int} (rr : Rg 3 (T3 s)) {p : Nat} (hp2 : p ≤ 97) (hq : ipr (p : Int) = true) {x y : Nat × Nat} (hx : isw 3 (T3 s) p x) (hy : isw 3 (T3 s) p y) {k : V3} (hN : ¬ (p : Int) ∣ k.2.1 ∨ ¬ (p : Int) ∣ k.2.2) (kx : (p : Int) ∣ ph (wp x).1 (wp x).2 k) (hspan : ∀ v, (p : Int) ∣ ph (wp x).1 (wp x).2 v → (p : Int) ∣ ph (wp y).1 (wp y).2 v → ∃ c, cg p v (vmu c k)) (hact : ∀ z, cg p (muv 3 (T3 s) z k) (vmu (ph (wp x).1 (wp x).2 z) k)) (ho : oth p (wp y) (wp x)) : ram 3 (T3 s) p x ∧ ¬ ram 3 (T3 s) p y := by
  have hP := prm_small (by omega) hq
  constructor
  · intro v hv
    have h1 := sm3_cg (hv k kx)
    have h2 := (hact v).symm.tr h1
    have e : vmu 0 (muv 3 (T3 s) v k) = vmu 0 k := by unfold vmu; simp
    rw [e] at h2
    have := cg_cancel hP hN h2
    rw [Int.sub_zero] at this; exact this
  · intro hr
    obtain ⟨y0, y1, y2⟩ := sep1 ho
    have hv : qv 3 (T3 s) p y (muv 3 (T3 s) y0 y0) := by
      intro z hz
      have a1 : (p : Int) ∣ ph (wp x).1 (wp x).2 (muv 3 (T3 s) y0 z) := ph_zero hx.2.2 y1
      have a2 : (p : Int) ∣ ph (wp y).1 (wp y).2 (muv 3 (T3 s) y0 z) := by rw [muv_comm]; exact ph_zero hy.2.2 hz
      obtain ⟨c, hc⟩ := hspan _ a1 a2
      rw [muv_assoc rr]
      refine cg_sm3 (hc.mul 3 (T3 s) y0) ?_
      rw [muv_mul]
      refine (Sp_grp _).mul (cg_sm3 (hact y0) ?_) c
      obtain ⟨t, ht⟩ := y1
      have e : vmu (ph (wp x).1 (wp x).2 y0) k = vmu (p : Int) (vmu t k) := by
        rw [ht]; refine v3_ext ?_ ?_ ?_ <;> unfold vmu <;> dsimp only <;> grind
      rw [e]; exact smR_vmu (Or.inr rfl) _
    exact ph_non hP hy.2.2 y2 y2 (hr _ hv)
theorem mE11 (s : Nat → Int) : muv 3 (T3 s) (eV 1) (eV 1) = (s 0, s 1, s 2) := by rw [muv3]; simp [mu3, eV]
theorem mE12 (s : Nat → Int) : muv 3 (T3 s) (eV 1) (eV 2) = (s 3, s 4, s 5) := by rw [muv3]; simp [mu3, eV]
theorem mE22 (s : Nat → Int) : muv 3 (T3 s) (eV 2) (eV 2) = (s 6, s 7, s 8) := by rw [muv3]; simp [mu3, eV]
theorem ram_three {T : Nat → Int} (rr : Rg 3 T) {p : Nat} (hp2 : p ≤ 97) (hq : ipr (p : Int) = true) {x y : Nat × Nat} (hL : wu 3 T p p = [x, y]) : (ram 3 T p x ∧ ¬ ram 3 T p y) ∨ (ram 3 T p y ∧ ¬ ram 3 T p x) := by
  have hP := prm_small (by omega) hq
  have p2 := hP.1
  obtain ⟨s, rfl⟩ : ∃ s, T = T3 s := by
    rcases rr with ⟨h, _⟩ | ⟨_, s, h, _⟩
    · exact absurd h (by decide)
    · exact ⟨s, h⟩
  have hx : isw 3 (T3 s) p x := wu_isw (by rw [hL]; simp)
  have hy : isw 3 (T3 s) p y := wu_isw (by rw [hL]; simp)
  have hxy : x ≠ y := by
    have := wu_pw (n := 3) (T := T3 s) (p := p) p
    rw [hL] at this
    simp only [List.pairwise_cons, List.mem_singleton] at this
    exact this.1 y rfl
  have ho : oth p (wp x) (wp y) := by
    refine oth_of (a := ((x.1 : Int), (x.2 : Int))) (b := ((y.1 : Int), (y.2 : Int))) ⟨⟨by dsimp only; omega, by have := hx.1; dsimp only; omega⟩, by dsimp only; omega, by have := hx.lt; dsimp only; omega⟩ ⟨⟨by dsimp only; omega, by have := hy.1; dsimp only; omega⟩, by dsimp only; omega, by have := hy.lt; dsimp only; omega⟩ ?_
    intro e
    rw [Prod.mk.injEq] at e
    exact hxy (Prod.ext (by omega) (by omega))
  have hN := kK_N ho
  have kx : (p : Int) ∣ ph (wp x).1 (wp x).2 (kK (wp x) (wp y)) := by rw [kK_a]; exact Int.dvd_zero _
  have ky : (p : Int) ∣ ph (wp y).1 (wp y).2 (kK (wp x) (wp y)) := by rw [kK_b]; exact Int.dvd_zero _
  have hspan : ∀ v, (p : Int) ∣ ph (wp x).1 (wp x).2 v → (p : Int) ∣ ph (wp y).1 (wp y).2 v → ∃ c, cg p v (vmu c (kK (wp x) (wp y))) := fun v a b => par_span hp2 hq hN (kK_par a b)
  generalize kK (wp x) (wp y) = k at hN kx ky hspan
  have hz : ∀ z, ∃ c, cg p (muv 3 (T3 s) z k) (vmu c k) := fun z => hspan _ (by rw [muv_comm]; exact ph_zero hx.2.2 kx) (by rw [muv_comm]; exact ph_zero hy.2.2 ky)
  obtain ⟨c1, h1⟩ := hz (eV 1)
  obtain ⟨c2, h2⟩ := hz (eV 2)
  have act : ∀ z, cg p (muv 3 (T3 s) z k) (vmu (ph c1 c2 z) k) := by
    intro z
    have e0 : muv 3 (T3 s) (eV 0) k = k := muv_one (Or.inr rfl) (T3 s) k
    have e : muv 3 (T3 s) z k = vad (vad (vmu z.1 (muv 3 (T3 s) (eV 0) k)) (vmu z.2.1 (muv 3 (T3 s) (eV 1) k))) (vmu z.2.2 (muv 3 (T3 s) (eV 2) k)) := by
      rw [muv_comm]
      conv => lhs; rw [eV_sum z]
      rw [muv_add, muv_add, muv_mul, muv_mul, muv_mul, muv_comm 3 _ k, muv_comm 3 _ k, muv_comm 3 _ k]
    rw [e, e0]
    have e2 : vmu (ph c1 c2 z) k = vad (vad (vmu z.1 k) (vmu z.2.1 (vmu c1 k))) (vmu z.2.2 (vmu c2 k)) := by
      unfold ph; refine v3_ext ?_ ?_ ?_ <;> unfold vad vmu <;> dsimp only <;> grind
    rw [e2]
    exact (cg.rfl'.add (h1.smul z.2.1)).add (h2.smul z.2.2)
  have tw : ∀ {i j : Nat} {ci cj : Int} {t : V3}, muv 3 (T3 s) (eV i) (eV j) = t → cg p (muv 3 (T3 s) (eV i) k) (vmu ci k) → cg p (muv 3 (T3 s) (eV j) k) (vmu cj k) → (p : Int) ∣ (ph c1 c2 t - ci * cj) := by
    intro i j ci cj t ht hi hj
    refine cg_cancel hP hN ((act t).symm.tr ?_)
    rw [← ht, muv_assoc rr]
    refine (hj.mul 3 (T3 s) (eV i)).tr ?_
    rw [muv_mul]
    refine (hi.smul cj).tr ?_
    have e : vmu cj (vmu ci k) = vmu (ci * cj) k := by refine v3_ext ?_ ?_ ?_ <;> unfold vmu <;> dsimp only <;> grind
    rw [e]; exact cg.rfl'
  have hw : wy 3 (T3 s) p c1 c2 := ⟨tw (mE11 s) h1 h1, fun _ => ⟨tw (mE12 s) h1 h2, tw (mE22 s) h2 h2⟩⟩
  obtain ⟨w, hwl, d1, d2⟩ := way_in (by omega) (fun h => absurd h (by decide)) hw
  have chg : ∀ z, cg p (muv 3 (T3 s) z k) (vmu (ph (wp w).1 (wp w).2 z) k) := by
    intro z
    refine (act z).tr (cg_scal ?_ k)
    have e : ph c1 c2 z - ph (wp w).1 (wp w).2 z = z.2.1 * (c1 - -(w.1 : Int)) + z.2.2 * (c2 - -(w.2 : Int)) := by unfold ph wp; dsimp only; grind
    rw [e]; exact Int.dvd_add (Int.dvd_mul_of_dvd_right d1) (Int.dvd_mul_of_dvd_right d2)
  rw [hL] at hwl
  simp only [List.mem_cons, List.not_mem_nil, or_false] at hwl
  rcases hwl with rfl | rfl
  · exact Or.inl (two_core rr hp2 hq hx hy hN kx hspan chg ho.symm)
  · exact Or.inr (two_core rr hp2 hq hy hx hN ky (fun v a b => hspan v b a) chg ho)
