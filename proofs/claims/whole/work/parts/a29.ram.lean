/-! primes of degree 1: their lattices, what divides p by them, and whether that lies within -/
theorem inv_ck : ∀ p : Nat, p < 98 → ipr (p : Int) = true → ∀ d : Nat, d < p → d = 0 ∨ (List.range p).any (fun e => e * d % p == 1) = true := by decide +kernel
theorem inv_ex {p : Nat} (hp2 : p ≤ 97) (hq : ipr (p : Int) = true) {d : Int} (h : ¬ (p : Int) ∣ d) : ∃ e : Int, (p : Int) ∣ (e * d - 1) := by
  have hP := prm_small (by omega) hq
  have p2 := hP.1
  have m0 := Int.emod_nonneg d (show (p : Int) ≠ 0 by omega)
  have m1 := Int.emod_lt_of_pos d (show (0 : Int) < p by omega)
  rcases inv_ck p (by omega) hq (d % p).toNat (by omega) with h0 | h0
  · exact absurd (Int.dvd_of_emod_eq_zero (by omega)) h
  · rw [List.any_eq_true] at h0
    obtain ⟨e, _, he⟩ := h0
    rw [beq_iff_eq] at he
    have e1 : ((e : Int) * (d % p)) % p = 1 := by
      have := congrArg (fun x : Nat => (x : Int)) he
      simp only [Int.natCast_emod, Int.natCast_mul, Int.toNat_of_nonneg m0] at this
      exact this
    refine ⟨e, ?_⟩
    have d1 : (p : Int) ∣ ((e : Int) * (d % p) - 1) := by
      have := md_dvd ((e : Int) * (d % p)) p
      rw [e1] at this
      have := (Int.dvd_neg).mpr this
      rw [Int.neg_sub] at this; exact this
    have d2 : (p : Int) ∣ (e : Int) * (d % p - d) := Int.dvd_mul_of_dvd_right (md_dvd d p)
    have := Int.dvd_sub d1 d2
    have q : (e : Int) * (d % p) - 1 - (e : Int) * (d % p - d) = (e : Int) * d - 1 := by grind
    rw [q] at this; exact this
/-- a way goes with products -/
theorem phm {n : Nat} {T : Nat → Int} (rr : Rg n T) {p u v : Int} (hv : n = 2 → v = 0) (h : wy n T p u v) (x y : V3) : p ∣ (ph u v (muv n T x y) - ph u v x * ph u v y) := by
  rcases rr with ⟨rfl, a, b, rfl, _, _⟩ | ⟨rfl, s, rfl, _, _⟩
  · have h1 : p ∣ (T2 a b 12 + T2 a b 13 * u + 0 - u * u) := h.1
    have e : ph u v (muv 2 (T2 a b) x y) - ph u v x * ph u v y = x.2.1 * y.2.1 * (T2 a b 12 + T2 a b 13 * u + 0 - u * u) := by
      rw [hv rfl, muv2]; unfold ph; dsimp only; grind
    rw [e]; exact Int.dvd_mul_of_dvd_right h1
  · exact ph_mul h x y
theorem ph_z {n : Nat} {T : Nat → Int} (rr : Rg n T) {p u v : Int} (hv : n = 2 → v = 0) (h : wy n T p u v) {x y : V3} (hx : p ∣ ph u v x) : p ∣ ph u v (muv n T x y) := by
  have := Int.dvd_add (phm rr hv h x y) (Int.dvd_mul_of_dvd_left (c := ph u v y) hx)
  rw [Int.sub_add_cancel] at this; exact this
theorem Sp_prR {p u w : Nat} {v : V3} : Sp (prR p u w) v ↔ (p : Int) ∣ ph (-(u : Int)) (-(w : Int)) v := by
  constructor
  · rintro ⟨i, j, k, a, b, c⟩
    have a' : v.1 = i * p + j * u + k * w := a
    have b' : v.2.1 = j * 1 + k * 0 := b
    have c' : v.2.2 = k * 1 := c
    refine ⟨i, ?_⟩
    unfold ph; rw [a', b', c']; grind
  · rintro ⟨i, h⟩
    refine ⟨i, v.2.1, v.2.2, ?_, ?_, ?_⟩
    · show v.1 = i * p + v.2.1 * u + v.2.2 * w
      unfold ph at h; grind
    · show v.2.1 = v.2.1 * 1 + v.2.2 * 0
      omega
    · show v.2.2 = v.2.2 * 1
      omega
theorem prR_Hm {p u w : Nat} (hu : u < p) (hw : w < p) : Hm (prR p u w) := by
  refine ⟨⟨rfl, rfl, rfl, ?_, (show (0 : Int) < 1 by decide), (show (0 : Int) < 1 by decide)⟩, ⟨?_, ?_⟩, ⟨?_, ?_⟩, (show (0 : Int) ≤ 0 by decide), (show (0 : Int) < 1 by decide)⟩
  · show (0 : Int) < (p : Int); omega
  · show (0 : Int) ≤ (u : Int); omega
  · show (u : Int) < (p : Int); omega
  · show (0 : Int) ≤ (w : Int); omega
  · show (w : Int) < (p : Int); omega
/-- a way in the list -/
def isw (n : Nat) (T : Nat → Int) (p : Nat) (x : Nat × Nat) : Prop := x.1 < p ∧ x.2 < wm n p ∧ wy n T p (-(x.1 : Int)) (-(x.2 : Int))
theorem isw.z {n : Nat} {T : Nat → Int} {p : Nat} {x : Nat × Nat} (h : isw n T p x) (hn : n = 2) : -(x.2 : Int) = 0 := by
  have := h.2.1; unfold wm at this; rw [if_pos hn] at this; omega
theorem isw.lt {n : Nat} {T : Nat → Int} {p : Nat} {x : Nat × Nat} (h : isw n T p x) : x.2 < p := by
  have h1 := h.1
  have := h.2.1; unfold wm at this
  by_cases c : n = 2 <;> simp only [c, if_true, if_false] at this <;> omega
theorem isw_IdR {n : Nat} {T : Nat → Int} (rr : Rg n T) {p : Nat} (hp2 : p ≤ 97) {x : Nat × Nat} (h : isw n T p x) : IdR n T (prR p x.1 x.2) := by
  refine ⟨prR_Hm h.1 h.lt, fun e => ⟨?_, rfl, rfl⟩, fun w v s => ?_, ?_⟩
  · have := h.z e; show (x.2 : Int) = 0; omega
  · rw [Sp_prR] at s ⊢
    rw [muv_comm]; exact ph_z rr h.z h.2.2 s
  · show (p : Int) * 1 * 1 ≤ 1000000; omega
/-- p divides -/
theorem Sp_smR {n : Nat} (h0 : n = 2 ∨ n = 3) {p : Int} {v : V3} : Sp (smR n p) v ↔ (p ∣ v.1 ∧ p ∣ v.2.1 ∧ (n = 3 → p ∣ v.2.2)) := by
  constructor
  · rintro ⟨i, j, k, a, b, c⟩
    have a' : v.1 = i * p + j * 0 + k * 0 := a
    have b' : v.2.1 = j * p + k * 0 := b
    refine ⟨⟨i, by rw [a']; grind⟩, ⟨j, by rw [b']; grind⟩, fun h => ?_⟩
    subst h
    have c' : v.2.2 = k * p := c
    exact ⟨k, by rw [c']; grind⟩
  · rintro ⟨⟨i, a⟩, ⟨j, b⟩, c⟩
    rcases h0 with rfl | rfl
    · refine ⟨i, j, v.2.2, ?_, ?_, ?_⟩
      · show v.1 = i * p + j * 0 + v.2.2 * 0
        rw [a]; grind
      · show v.2.1 = j * p + v.2.2 * 0
        rw [b]; grind
      · show v.2.2 = v.2.2 * 1
        omega
    · obtain ⟨k, c⟩ := c rfl
      refine ⟨i, j, k, ?_, ?_, ?_⟩
      · show v.1 = i * p + j * 0 + k * 0
        rw [a]; grind
      · show v.2.1 = j * p + k * 0
        rw [b]; grind
      · show v.2.2 = k * p
        rw [c]; grind
theorem smR_mul {n : Nat} (h0 : n = 2 ∨ n = 3) (T : Nat → Int) {p : Int} (w : V3) {v : V3} (s : Sp (smR n p) v) : Sp (smR n p) (muv n T w v) := by
  rw [Sp_smR h0] at s ⊢
  obtain ⟨⟨i, a⟩, ⟨j, b⟩, c⟩ := s
  rcases h0 with rfl | rfl
  · rw [muv2]
    refine ⟨⟨w.1 * i + w.2.1 * j * T 12, by dsimp only; rw [a, b]; grind⟩, ⟨w.1 * j + w.2.1 * i + w.2.1 * j * T 13, by dsimp only; rw [a, b]; grind⟩, fun h => absurd h (by decide)⟩
  · obtain ⟨k, c⟩ := c rfl
    have e : v = vmu p (i, j, k) := v3_ext a b c
    rw [e, muv_mul]
    exact ⟨⟨_, rfl⟩, ⟨_, rfl⟩, fun _ => ⟨_, rfl⟩⟩
theorem smR_IdR {n : Nat} (h0 : n = 2 ∨ n = 3) (T : Nat → Int) {p : Nat} (hp : 2 ≤ p) (hp2 : p ≤ 97) : IdR n T (smR n p) := by
  refine ⟨smR_Hm (by omega), fun e => by subst e; exact ⟨rfl, rfl, rfl⟩, fun w v s => smR_mul h0 T w s, ?_⟩
  have b2 : (p : Int) * p ≤ 97 * 97 := Int.mul_le_mul (by omega) (by omega) (by omega) (by omega)
  rcases h0 with rfl | rfl
  · show (p : Int) * p * 1 ≤ 1000000; omega
  · show (p : Int) * p * p ≤ 1000000
    have : (p : Int) * p * p ≤ 97 * 97 * 97 := Int.mul_le_mul b2 (by omega) (by omega) (by omega)
    omega
/-- what brings a prime into p -/
def qv (n : Nat) (T : Nat → Int) (p : Nat) (x : Nat × Nat) (v : V3) : Prop := ∀ y, (p : Int) ∣ ph (-(x.1 : Int)) (-(x.2 : Int)) y → Sp (smR n p) (muv n T v y)
theorem qv_rows {n : Nat} {T : Nat → Int} (rr : Rg n T) {p : Nat} {x : Nat × Nat} (h : isw n T p x) (v : V3) : (∀ i, i < n → Sp (smR n p) (muv n T v (rowV (prR p x.1 x.2) i))) ↔ qv n T p x v := by
  have h0 := rr.n
  have hr2 : R2 n (prR p x.1 x.2) := fun e => ⟨by have := h.z e; show (x.2 : Int) = 0; omega, rfl, rfl⟩
  have g : Grp (fun y => Sp (smR n p) (muv n T v y)) := (Sp_grp _).div n T v
  have q := in3_rowsN h0 (prR_Hm h.1 h.lt).1 hr2 (fun y => Sp (smR n p) (muv n T v y)) (fun e => by
    subst e; rw [Sp_smR (Or.inl rfl), muv2]; dsimp only
    exact ⟨⟨0, by simp⟩, ⟨0, by simp⟩, fun h => absurd h (by decide)⟩)
  rw [← q]
  constructor
  · intro i y hy; exact i.sp g (Sp_prR.mpr hy)
  · intro hq
    have := Sp_in (prR p x.1 x.2)
    exact ⟨hq _ (Sp_prR.mp this.1), hq _ (Sp_prR.mp this.2.1), hq _ (Sp_prR.mp this.2.2)⟩
/-- what brings the prime into p lies in the prime -/
def ram (n : Nat) (T : Nat → Int) (p : Nat) (x : Nat × Nat) : Prop := ∀ v, qv n T p x v → (p : Int) ∣ ph (-(x.1 : Int)) (-(x.2 : Int)) v
/-- p lies in the product of the prime and what brings it into p -/
def invP (n : Nat) (T : Nat → Int) (p : Nat) (x : Nat × Nat) : Prop := ∀ H, Grp H → (n = 2 → H (0, 0, 1)) → (∀ y z, (p : Int) ∣ ph (-(x.1 : Int)) (-(x.2 : Int)) y → qv n T p x z → H (muv n T y z)) → H ((p : Int), 0, 0)
theorem ph_add (u v : Int) (x y : V3) : ph u v (vad x y) = ph u v x + ph u v y := by unfold ph vad; dsimp only; grind
theorem ph_sub (u v : Int) (x y : V3) : ph u v (vsu x y) = ph u v x - ph u v y := by unfold ph vsu; dsimp only; grind
theorem ph_smul (u v k : Int) (x : V3) : ph u v (vmu k x) = k * ph u v x := by unfold ph vmu; dsimp only; grind
theorem ph_one {n : Nat} {u v : Int} (h : n = 2 → v = 0) : ph u v (oneV n) = 1 := by
  unfold ph oneV
  by_cases c : n = 2
  · rw [if_pos c, h c]; dsimp only; omega
  · rw [if_neg c]; dsimp only; omega
theorem smR_vmu {n : Nat} (h0 : n = 2 ∨ n = 3) {p : Int} (v : V3) : Sp (smR n p) (vmu p v) := by
  rw [Sp_smR h0]; exact ⟨⟨_, rfl⟩, ⟨_, rfl⟩, fun _ => ⟨_, rfl⟩⟩
theorem qv_p {n : Nat} (h0 : n = 2 ∨ n = 3) (T : Nat → Int) (p : Nat) (x : Nat × Nat) (v : V3) : qv n T p x (vmu p v) := by
  intro y _
  rw [muv_comm, muv_mul]; exact smR_vmu h0 _
theorem qv_smul {n : Nat} {T : Nat → Int} {p : Nat} {x : Nat × Nat} {v : V3} (h : qv n T p x v) (k : Int) : qv n T p x (vmu k v) := by
  intro y hy
  rw [muv_comm, muv_mul, muv_comm]; exact (Sp_grp _).mul (h y hy) k
theorem inv_of_unram {n : Nat} {T : Nat → Int} (rr : Rg n T) {p : Nat} (hp2 : p ≤ 97) (hq : ipr (p : Int) = true) {x : Nat × Nat} (hx : isw n T p x) (h : ¬ ram n T p x) : invP n T p x := by
  have h0 := rr.n
  have : ∃ e, qv n T p x e ∧ ¬ (p : Int) ∣ ph (-(x.1 : Int)) (-(x.2 : Int)) e := by
    apply Classical.byContradiction
    intro c
    exact h (fun v hv => Classical.byContradiction (fun c2 => c ⟨v, hv, c2⟩))
  obtain ⟨e, he, hne⟩ := this
  obtain ⟨f, hf⟩ := inv_ex hp2 hq hne
  intro H g h3 hH
  have hpi : (p : Int) ∣ ph (-(x.1 : Int)) (-(x.2 : Int)) (vsu (oneV n) (vmu f e)) := by
    rw [ph_sub, ph_smul, ph_one hx.z]
    have := (Int.dvd_neg).mpr hf
    rw [Int.neg_sub] at this; exact this
  have a1 : H (muv n T (vmu p (oneV n)) (vmu f e)) := hH _ _ (by rw [ph_smul]; exact Int.dvd_mul_right _ _) (qv_smul he f)
  have a2 : H (muv n T (vsu (oneV n) (vmu f e)) (vmu p (oneV n))) := hH _ _ hpi (qv_p h0 T p x _)
  rw [muv_comm, muv_mul, muv_one_r h0] at a1
  rw [muv_mul, muv_one_r h0] at a2
  have a3 := g.add a1 a2
  rcases h0 with rfl | rfl
  · have a4 := g.mul (h3 rfl) (-(p : Int))
    have a5 := g.add a3 a4
    have e5 : vad (vad (vmu (p : Int) (vmu f e)) (vmu (p : Int) (vsu (oneV 2) (vmu f e)))) (vmu (-(p : Int)) (0, 0, 1)) = ((p : Int), 0, 0) := by
      have o : oneV 2 = (1, 0, 1) := rfl
      rw [o]
      refine v3_ext ?_ ?_ ?_ <;> unfold vad vmu vsu <;> dsimp only <;> grind
    rw [e5] at a5; exact a5
  · have e5 : vad (vmu (p : Int) (vmu f e)) (vmu (p : Int) (vsu (oneV 3) (vmu f e))) = ((p : Int), 0, 0) := by
      have o : oneV 3 = (1, 0, 0) := rfl
      rw [o]
      refine v3_ext ?_ ?_ ?_ <;> unfold vad vmu vsu <;> dsimp only <;> grind
    rw [e5] at a3; exact a3
theorem wv_in {n : Nat} {T : Nat → Int} {p u V v : Nat} (hv : v < V) (h : wy n T p (-(u : Int)) (-(v : Int))) : (u, v) ∈ wv n T p u V := by
  unfold wv
  rw [List.mem_map]
  exact ⟨v, by rw [List.mem_filter, List.mem_range]; exact ⟨hv, wyB_iff.mpr h⟩, rfl⟩
theorem wu_in {n : Nat} {T : Nat → Int} {p : Nat} {x : Nat × Nat} (h : isw n T p x) : x ∈ wu n T p p := by
  unfold wu
  rw [List.mem_flatMap]
  exact ⟨x.1, List.mem_range.mpr h.1, wv_in h.2.1 h.2.2⟩
theorem wu_isw {n : Nat} {T : Nat → Int} {p : Nat} {x : Nat × Nat} (h : x ∈ wu n T p p) : isw n T p x := wu_mem h
/-- any way modulo p is one of the list -/
theorem way_in {n : Nat} {T : Nat → Int} {p : Nat} (hp : 2 ≤ p) {a b : Int} (hb : n = 2 → b = 0) (h : wy n T p a b) : ∃ x, x ∈ wu n T p p ∧ (p : Int) ∣ (a - -(x.1 : Int)) ∧ (p : Int) ∣ (b - -(x.2 : Int)) := by
  have q : ∀ c : Int, ∃ m : Nat, m < p ∧ (p : Int) ∣ (c - -(m : Int)) := by
    intro c
    have m0 := Int.emod_nonneg (-c) (show (p : Int) ≠ 0 by omega)
    have m1 := Int.emod_lt_of_pos (-c) (show (0 : Int) < p by omega)
    refine ⟨(-c % p).toNat, by omega, ?_⟩
    have := md_dvd (-c) p
    rw [Int.toNat_of_nonneg m0]
    have e : -c % (p : Int) - -c = c - -(-c % (p : Int)) := by omega
    rw [e] at this; exact this
  obtain ⟨u, hu, du⟩ := q a
  by_cases c : n = 2
  · refine ⟨(u, 0), wu_in ⟨hu, by unfold wm; rw [if_pos c]; exact Nat.one_pos, ?_⟩, du, ?_⟩
    · exact (wy_mod du (by rw [hb c]; exact ⟨0, by simp⟩)).mp h
    · rw [hb c]; exact ⟨0, by simp⟩
  · obtain ⟨w, hw, dw⟩ := q b
    exact ⟨(u, w), wu_in ⟨hu, by unfold wm; rw [if_neg c]; exact hw, (wy_mod du dw).mp h⟩, du, dw⟩
/-- degree 2, one way: it is twice there -/
theorem ram_two {T : Nat → Int} (rr : Rg 2 T) {p : Nat} (hp : 2 ≤ p) {x : Nat × Nat} (hL : wu 2 T p p = [x]) : ram 2 T p x := by
  have hx : isw 2 T p x := wu_isw (by rw [hL]; exact List.mem_singleton.mpr rfl)
  have z := hx.z rfl
  have hw := hx.2.2
  have hw1 : (p : Int) ∣ (T 12 + T 13 * -(x.1 : Int) + 0 - -(x.1 : Int) * -(x.1 : Int)) := hw.1
  have hw2 : wy 2 T p (T 13 - -(x.1 : Int)) 0 := by
    refine ⟨?_, fun h => absurd h (by decide)⟩
    rw [if_pos rfl]
    have e : T 12 + T 13 * (T 13 - -(x.1 : Int)) + 0 - (T 13 - -(x.1 : Int)) * (T 13 - -(x.1 : Int)) = T 12 + T 13 * -(x.1 : Int) + 0 - -(x.1 : Int) * -(x.1 : Int) := by grind
    rw [e]; exact hw1
  obtain ⟨y, hy, d1, _⟩ := way_in hp (fun _ => rfl) hw2
  rw [hL, List.mem_singleton] at hy
  subst hy
  intro v hv
  have := hv (-(-(y.1 : Int)), 1, 0) (by unfold ph; dsimp only; exact ⟨0, by omega⟩)
  rw [Sp_smR (Or.inl rfl), muv2] at this
  have k : (p : Int) ∣ (v.1 * 1 + v.2.1 * (-(-(y.1 : Int))) + v.2.1 * 1 * T 13) := this.2.1
  have := Int.dvd_sub k (Int.dvd_mul_of_dvd_right (b := v.2.1) d1)
  have e : v.1 * 1 + v.2.1 * (-(-(y.1 : Int))) + v.2.1 * 1 * T 13 - v.2.1 * (T 13 - -(y.1 : Int) - -(y.1 : Int)) = ph (-(y.1 : Int)) (-(y.2 : Int)) v := by
    rw [z]; unfold ph; grind
  rw [e] at this; exact this
