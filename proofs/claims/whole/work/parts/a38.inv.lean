/-! primes that are invertible: an ideal lies in X P just if what P brings into it lies in X -/
def eqn (n : Nat) (u v : V3) : Prop := u.1 = v.1 ∧ u.2.1 = v.2.1 ∧ (n = 3 → u.2.2 = v.2.2)
theorem eqn.rfl' {n : Nat} {u : V3} : eqn n u u := ⟨rfl, rfl, fun _ => rfl⟩
theorem eqn.symm {n : Nat} {u v : V3} (h : eqn n u v) : eqn n v u := ⟨h.1.symm, h.2.1.symm, fun e => (h.2.2 e).symm⟩
theorem eqn.tr {n : Nat} {u v w : V3} (h : eqn n u v) (g : eqn n v w) : eqn n u w := ⟨h.1.trans g.1, h.2.1.trans g.2.1, fun e => (h.2.2 e).trans (g.2.2 e)⟩
theorem eqn.mul {n : Nat} (h0 : n = 2 ∨ n = 3) (T : Nat → Int) {u v : V3} (h : eqn n u v) (w : V3) : eqn n (muv n T w u) (muv n T w v) := by
  rcases h0 with rfl | rfl
  · rw [muv2, muv2]
    refine ⟨?_, ?_, fun e => absurd e (by decide)⟩ <;> dsimp only <;> rw [h.1, h.2.1]
  · rw [v3_ext h.1 h.2.1 (h.2.2 rfl)]; exact eqn.rfl'
theorem eqn.sub {n : Nat} {u v u' v' : V3} (h : eqn n u v) (g : eqn n u' v') : eqn n (vsu u u') (vsu v v') := by
  refine ⟨?_, ?_, fun e => ?_⟩ <;> unfold vsu <;> dsimp only
  · rw [h.1, g.1]
  · rw [h.2.1, g.2.1]
  · rw [h.2.2 e, g.2.2 e]
theorem eqn.cancel {n : Nat} {p : Int} (hp : p ≠ 0) {u v : V3} (h : eqn n (vmu p u) (vmu p v)) : eqn n u v :=
  ⟨Int.eq_of_mul_eq_mul_left hp h.1, Int.eq_of_mul_eq_mul_left hp h.2.1, fun e => Int.eq_of_mul_eq_mul_left hp (h.2.2 e)⟩
theorem eqn.sp {n : Nat} (h0 : n = 2 ∨ n = 3) {R : Nat → Int} (r2 : R2 n R) {u v : V3} (h : eqn n u v) (s : Sp R u) : Sp R v := by
  rcases h0 with rfl | rfl
  · rw [Sp2_iff (r2 rfl)] at s ⊢
    rw [← h.1, ← h.2.1]; exact s
  · rw [← v3_ext h.1 h.2.1 (h.2.2 rfl)]; exact s
theorem sm_eqn {n : Nat} (h0 : n = 2 ∨ n = 3) {p : Int} {u : V3} (s : Sp (smR n p) u) : ∃ t, eqn n u (vmu p t) := by
  rw [Sp_smR h0] at s
  obtain ⟨⟨a, ha⟩, ⟨b, hb⟩, hc⟩ := s
  rcases h0 with rfl | rfl
  · exact ⟨(a, b, 0), ha, hb, fun e => absurd e (by decide)⟩
  · obtain ⟨c, hc⟩ := hc rfl
    exact ⟨(a, b, c), ha, hb, fun _ => hc⟩
theorem one_p {n : Nat} (h0 : n = 2 ∨ n = 3) (p : Int) : eqn n (p, 0, 0) (vmu p (oneV n)) := by
  rcases h0 with rfl | rfl
  · have o : oneV 2 = (1, 0, 1) := rfl
    rw [o]; refine ⟨?_, ?_, fun e => absurd e (by decide)⟩ <;> unfold vmu <;> dsimp only <;> omega
  · have o : oneV 3 = (1, 0, 0) := rfl
    rw [o]; refine ⟨?_, ?_, fun e => ?_⟩ <;> unfold vmu <;> dsimp only <;> omega
def qR (n : Nat) (T : Nat → Int) (p : Int) (R : Nat → Int) (z : V3) : Prop := ∀ x, Sp R x → Sp (smR n p) (muv n T z x)
def invR (n : Nat) (T : Nat → Int) (p : Int) (R : Nat → Int) : Prop := ∀ H, Grp H → (n = 2 → H (0, 0, 1)) → (∀ y z, Sp R y → qR n T p R z → H (muv n T y z)) → H (p, 0, 0)
theorem third_eqn {T : Nat → Int} {n : Nat} (hn : n = 2) (y : V3) : eqn n (muv n T y (0, 0, 1)) (0, 0, 0) := by
  subst hn
  rw [muv2]; refine ⟨?_, ?_, fun e => absurd e (by decide)⟩ <;> dsimp only <;> omega
theorem vmu_zero (p : Int) : vmu p (0, 0, 0) = (0, 0, 0) := by unfold vmu; simp
theorem Sp_zero (R : Nat → Int) : Sp R (0, 0, 0) := (Sp_grp R).1
theorem prod_in {n : Nat} {T X P R : Nat → Int} (h0 : n = 2 ∨ n = 3) (tX : Tri X) (rX : R2 n X) (tP : Tri P) (rP : R2 n P) (rR : R2 n R) (h : Prod2 n T X P R) {x y : V3} (hx : Sp X x) (hy : Sp P y) : Sp R (muv n T x y) := by
  have rows := ((h _ (Sp_grp R)).mp (Sp_in R)).2
  have z3 : ∀ w : V3, n = 2 → Sp R (muv n T w (0, 0, 1)) := fun w e => (third_eqn (T := T) e w).symm.sp h0 rR (Sp_zero R)
  have half : ∀ i, i < n → ∀ z, Sp P z → Sp R (muv n T (rowV X i) z) := by
    intro i hi z hz
    exact ((in3_rowsN h0 tP rP (fun z => Sp R (muv n T (rowV X i) z)) (z3 _)).mpr (fun j hj => rows i hi j hj)).sp ((Sp_grp R).div n T _) hz
  have := ((in3_rowsN h0 tX rX (fun x => Sp R (muv n T y x)) (z3 _)).mpr (fun i hi => by rw [muv_comm]; exact half i hi y hy)).sp ((Sp_grp R).div n T _) hx
  rw [muv_comm]; exact this
theorem prod_out {n : Nat} {T X P R : Nat → Int} (h0 : n = 2 ∨ n = 3) (tX : Tri X) (rX : R2 n X) (tP : Tri P) (rP : R2 n P) (h : Prod2 n T X P R) {H : V3 → Prop} (g : Grp H) (h3 : n = 2 → H (0, 0, 1)) (hH : ∀ x y, Sp X x → Sp P y → H (muv n T x y)) {v : V3} (hv : Sp R v) : H v := by
  refine ((h H g).mpr ⟨h3, fun i hi j hj => hH _ _ ?_ ?_⟩).sp g hv
  · exact (in3_rowsN h0 tX rX (Sp X) (fun e => ⟨0, 0, 1, by simp [(rX e).1], by simp [(rX e).2.1], by simp [(rX e).2.2]⟩)).mp (Sp_in X) i hi
  · exact (in3_rowsN h0 tP rP (Sp P) (fun e => ⟨0, 0, 1, by simp [(rP e).1], by simp [(rP e).2.1], by simp [(rP e).2.2]⟩)).mp (Sp_in P) j hj
/-- the group of what y brings into p times a lattice -/
theorem grp_yz {n : Nat} (h0 : n = 2 ∨ n = 3) (T X : Nat → Int) (p : Int) (y : V3) : Grp (fun z => ∃ r, Sp X r ∧ eqn n (muv n T y z) (vmu p r)) := by
  refine ⟨⟨(0, 0, 0), Sp_zero X, by rw [muv_zero, vmu_zero]; exact eqn.rfl'⟩, ?_⟩
  rintro a b ⟨r, r1, r2⟩ ⟨s, s1, s2⟩
  refine ⟨vsu r s, (Sp_grp X).2 _ _ r1 s1, ?_⟩
  rw [muv_sub]
  refine (r2.sub s2).tr ?_
  have e : vsu (vmu p r) (vmu p s) = vmu p (vsu r s) := by refine v3_ext ?_ ?_ ?_ <;> unfold vsu vmu <;> dsimp only <;> grind
  rw [e]; exact eqn.rfl'
theorem yz_three {n : Nat} (T X : Nat → Int) (p : Int) (y : V3) : n = 2 → ∃ r, Sp X r ∧ eqn n (muv n T y (0, 0, 1)) (vmu p r) := fun e => ⟨(0, 0, 0), Sp_zero X, by rw [vmu_zero]; exact third_eqn e y⟩
theorem yz_end {n : Nat} (h0 : n = 2 ∨ n = 3) {T X : Nat → Int} {p : Int} (hp : p ≠ 0) (rX : R2 n X) {y : V3} (h : ∃ r, Sp X r ∧ eqn n (muv n T y (p, 0, 0)) (vmu p r)) : Sp X y := by
  obtain ⟨r, r1, r2⟩ := h
  have e : eqn n (muv n T y (p, 0, 0)) (vmu p y) := by
    have := (one_p h0 p).mul h0 T y
    rw [muv_mul, muv_one_r h0] at this; exact this
  exact ((e.symm.tr r2).cancel hp).symm.sp h0 rX r1
theorem in_prod_iff {n : Nat} {T P X J R : Nat → Int} (rr : Rg n T) {p : Int} (hp : p ≠ 0) (tP : Tri P) (rP : R2 n P) (iP : invR n T p P) (tX : Tri X) (rX : R2 n X) (iX : Idl n T X) (iJ : Idl n T J) (hJP : ∀ v, Sp J v → Sp P v) (rJ : R2 n J) (rR : R2 n R) (hR : Prod2 n T X P R) : (∀ v, Sp J v → Sp R v) ↔ (∀ b, (∀ x, Sp P x → Sp J (muv n T b x)) → Sp X b) := by
  have h0 := rr.n
  constructor
  · intro hJ b hb
    refine yz_end (T := T) h0 hp rX (iP (fun z => ∃ r, Sp X r ∧ eqn n (muv n T b z) (vmu p r)) (grp_yz h0 T X p b) (yz_three T X p b) (fun x q hx hq => ?_))
    have hm := hJ _ (hb x hx)
    have key : ∀ m, Sp R m → ∃ r, Sp X r ∧ eqn n (muv n T q m) (vmu p r) := by
      intro m hm
      refine prod_out (H := fun m => ∃ r, Sp X r ∧ eqn n (muv n T q m) (vmu p r)) h0 tX rX tP rP hR (grp_yz h0 T X p q) (yz_three T X p q) (fun x0 y hx0 hy => ?_) hm
      obtain ⟨t, ht⟩ := sm_eqn h0 (hq y hy)
      refine ⟨muv n T t x0, iX _ _ hx0, ?_⟩
      have e : muv n T q (muv n T x0 y) = muv n T x0 (muv n T q y) := by rw [← muv_assoc rr, muv_comm n T q x0, muv_assoc rr]
      rw [e]
      refine (ht.mul h0 T x0).tr ?_
      rw [muv_mul, muv_comm]; exact eqn.rfl'
    obtain ⟨r, r1, r2⟩ := key _ hm
    refine ⟨r, r1, ?_⟩
    have e : muv n T b (muv n T x q) = muv n T q (muv n T b x) := by rw [← muv_assoc rr, muv_comm]
    rw [e]; exact r2
  · intro hX y hy
    refine yz_end (T := T) h0 hp rR (iP (fun z => ∃ r, Sp R r ∧ eqn n (muv n T y z) (vmu p r)) (grp_yz h0 T R p y) (yz_three T R p y) (fun x q hx hq => ?_))
    obtain ⟨t, ht⟩ := sm_eqn h0 (hq y (hJP y hy))
    have htX : Sp X t := by
      refine hX t (fun x' hx' => ?_)
      obtain ⟨s, hs⟩ := sm_eqn h0 (hq x' hx')
      have e1 : eqn n (vmu p (muv n T t x')) (vmu p (muv n T s y)) := by
        have a1 : eqn n (muv n T x' (vmu p t)) (muv n T x' (muv n T q y)) := ht.symm.mul h0 T x'
        have a2 : eqn n (muv n T y (muv n T q x')) (muv n T y (vmu p s)) := hs.mul h0 T y
        have e : muv n T x' (muv n T q y) = muv n T y (muv n T q x') := by rw [← muv_assoc rr, muv_comm, muv_comm n T x' q]
        rw [e] at a1
        have a3 := a1.tr a2
        rw [muv_mul, muv_mul, muv_comm n T x' t, muv_comm n T y s] at a3; exact a3
      exact (e1.cancel hp).symm.sp h0 rJ (iJ s y hy)
    refine ⟨muv n T t x, prod_in h0 tX rX tP rP rR hR htX hx, ?_⟩
    have e : muv n T y (muv n T x q) = muv n T x (muv n T q y) := by rw [← muv_assoc rr, muv_comm n T y x, muv_assoc rr, muv_comm n T y q]
    rw [e]
    refine (ht.mul h0 T x).tr ?_
    rw [muv_mul, muv_comm]; exact eqn.rfl'
/-- p itself -/
theorem inv_sm {n : Nat} (h0 : n = 2 ∨ n = 3) (T : Nat → Int) (p : Int) : invR n T p (smR n p) := by
  intro H g h3 hH
  have a := hH (vmu p (oneV n)) (oneV n) (smR_vmu h0 _) (fun x hx => by rw [muv_one h0]; exact hx)
  rw [muv_one_r h0] at a
  rcases h0 with rfl | rfl
  · have a5 := g.add a (g.mul (h3 rfl) (-p))
    have e5 : vad (vmu p (oneV 2)) (vmu (-p) (0, 0, 1)) = (p, 0, 0) := by
      have o : oneV 2 = (1, 0, 1) := rfl
      rw [o]; refine v3_ext ?_ ?_ ?_ <;> unfold vad vmu <;> dsimp only <;> grind
    rw [e5] at a5; exact a5
  · have e5 : vmu p (oneV 3) = (p, 0, 0) := by
      have o : oneV 3 = (1, 0, 0) := rfl
      rw [o]; refine v3_ext ?_ ?_ ?_ <;> unfold vmu <;> dsimp only <;> grind
    rw [e5] at a; exact a
/-- a prime of degree 1 -/
theorem inv_pr {n : Nat} {T : Nat → Int} {p : Nat} {x : Nat × Nat} (h : invP n T p x) : invR n T p (prR p x.1 x.2) := by
  intro H g h3 hH
  exact h H g h3 (fun y z hy hz => hH y z (Sp_prR.mpr hy) (fun w hw => hz w (Sp_prR.mp hw)))
/-- what brings a prime of degree 1 into p -/
theorem inv_q {n : Nat} {T : Nat → Int} {p : Nat} {x : Nat × Nat} {R : Nat → Int} (hS : ∀ v, Sp R v ↔ qv n T p x v) (h : invP n T p x) : invR n T p R := by
  intro H g h3 hH
  refine h H g h3 (fun y z hy hz => ?_)
  rw [muv_comm]
  refine hH z y ((hS z).mpr hz) (fun w hw => ?_)
  rw [muv_comm]; exact (hS w).mp hw y hy
