/-! norms fall at a prime of degree 2 beside a lone way -/
def mB (B : Nat → Int) (u v : V3) : Prop := Sp B (vsu u v)
theorem mB.rfl' {B : Nat → Int} {u : V3} : mB B u u := by
  unfold mB
  have e : vsu u u = (0, 0, 0) := by unfold vsu; simp
  rw [e]; exact Sp_zero B
theorem mB.symm {B : Nat → Int} {u v : V3} (h : mB B u v) : mB B v u := by
  have := (Sp_grp B).mul h (-1)
  have e : vmu (-1) (vsu u v) = vsu v u := by refine v3_ext ?_ ?_ ?_ <;> unfold vmu vsu <;> dsimp only <;> omega
  rw [e] at this; exact this
theorem mB.tr {B : Nat → Int} {u v w : V3} (h : mB B u v) (g : mB B v w) : mB B u w := by
  have := (Sp_grp B).add h g
  have e : vad (vsu u v) (vsu v w) = vsu u w := by refine v3_ext ?_ ?_ ?_ <;> unfold vad vsu <;> dsimp only <;> omega
  rw [e] at this; exact this
theorem mB.mul {n : Nat} {T B : Nat → Int} (iB : Idl n T B) {u v : V3} (h : mB B u v) (w : V3) : mB B (muv n T w u) (muv n T w v) := by
  have := iB w _ h
  rw [muv_sub] at this; exact this
theorem mB.smul {B : Nat → Int} {u v : V3} (h : mB B u v) (k : Int) : mB B (vmu k u) (vmu k v) := by
  have := (Sp_grp B).mul h k
  have e : vmu k (vsu u v) = vsu (vmu k u) (vmu k v) := by refine v3_ext ?_ ?_ ?_ <;> unfold vmu vsu <;> dsimp only <;> grind
  rw [e] at this; exact this
theorem mB.add {B : Nat → Int} {u v u' v' : V3} (h : mB B u v) (g : mB B u' v') : mB B (vad u u') (vad v v') := by
  have := (Sp_grp B).add h g
  have e : vad (vsu u v) (vsu u' v') = vsu (vad u u') (vad v v') := by refine v3_ext ?_ ?_ ?_ <;> unfold vad vsu <;> dsimp only <;> omega
  rw [e] at this; exact this
theorem mB_sub {B : Nat → Int} {c d : Int} {m : V3} (h : mB B (vmu c m) (vmu d m)) : Sp B (vmu (c - d) m) := by
  have e : vsu (vmu c m) (vmu d m) = vmu (c - d) m := by refine v3_ext ?_ ?_ ?_ <;> unfold vmu vsu <;> dsimp only <;> grind
  unfold mB at h; rw [e] at h; exact h
/-- one step of index p: all is a multiple of one -/
theorem idx_p {p : Int} {B M : Nat → Int} (tB : Tri B) (tM : Tri M) (h : inL B M) {a b c : Int} (e0 : B 0 = a * M 0) (e4 : B 4 = b * M 4) (e8 : B 8 = c * M 8) (hx : (a = p ∧ b = 1 ∧ c = 1) ∨ (a = 1 ∧ b = p ∧ c = 1) ∨ (a = 1 ∧ b = 1 ∧ c = p)) : ∃ m, Sp M m ∧ ∀ v, Sp M v → ∃ k, mB B v (vmu k m) := by
  obtain ⟨s1, s2, s3⟩ := Sp_in B
  obtain ⟨r1, r2, r3⟩ := Sp_in M
  have g := Sp_grp B
  obtain ⟨_, _, _, m0, m4, m8⟩ := tM
  have tM' : Tri M := ⟨by assumption, by assumption, by assumption, m0, m4, m8⟩
  obtain ⟨i2, j2, f1, f2⟩ := sp_1 tM' (h _ s2)
  obtain ⟨i3, j3, k3, f3, f4, f5⟩ := sp_2 (h _ s3)
  have one : ∀ {x j : Int}, 0 < x → 1 * x = j * x → j = 1 := by
    intro x j hx e
    have : x * 1 = x * j := by rw [Int.mul_comm x j, Int.mul_one]; omega
    exact (Int.eq_of_mul_eq_mul_left (by omega) this).symm
  rcases hx with ⟨_, rfl, rfl⟩ | ⟨rfl, _, rfl⟩ | ⟨rfl, rfl, _⟩
  · have q2 := one m4 (e4.symm.trans f1)
    have q3 := one m8 (e8.symm.trans f3)
    subst q2
    subst q3
    refine ⟨_, r1, fun v hv => ?_⟩
    obtain ⟨i, j, k, u, v', w⟩ := hv
    refine ⟨i - j * i2 + k * (j3 * i2 - i3), ?_⟩
    refine g.co (x := (0, 0, 0)) (j - k * j3) k 0 g.1 s2 s3 g.1 ?_ ?_ ?_ <;> unfold vsu vmu <;> dsimp only
    · rw [u, f2, f5]; grind
    · rw [v', f4, f1]; grind
    · rw [w, f3]; grind
  · have q3 := one m8 (e8.symm.trans f3)
    subst q3
    have y1 : Sp B (M 0, 0, 0) := by rw [Int.one_mul] at e0; rw [← e0]; exact s1
    refine ⟨_, r2, fun v hv => ?_⟩
    obtain ⟨i, j, k, u, v', w⟩ := hv
    refine ⟨j - k * j3, ?_⟩
    refine g.co (x := (0, 0, 0)) (i - k * i3) k 0 g.1 y1 s3 g.1 ?_ ?_ ?_ <;> unfold vsu vmu <;> dsimp only
    · rw [u, f5]; grind
    · rw [v', f4]; grind
    · rw [w, f3]; grind
  · have q2 := one m4 (e4.symm.trans f1)
    subst q2
    have y1 : Sp B (M 0, 0, 0) := by rw [Int.one_mul] at e0; rw [← e0]; exact s1
    refine ⟨_, r3, fun v hv => ?_⟩
    obtain ⟨i, j, k, u, v', w⟩ := hv
    refine ⟨k, ?_⟩
    refine g.co (x := (0, 0, 0)) (i - j * i2) j 0 g.1 y1 s2 g.1 ?_ ?_ ?_ <;> unfold vsu vmu <;> dsimp only
    · rw [u, f2]; grind
    · rw [v', f1]; grind
    · rw [w]; grind
/-- an index p makes a way that kills what brings M into B -/
theorem idx_way {s : Nat → Int} (rr : Rg 3 (T3 s)) {p : Nat} (hp2 : p ≤ 97) (hq : ipr (p : Int) = true) {B M : Nat → Int} (iB : Idl 3 (T3 s) B) (iM : Idl 3 (T3 s) M) (ne : ¬ inL M B) (hpM : ∀ v, Sp M v → Sp B (vmu p v)) {m : V3} (hm : Sp M m) (hall : ∀ v, Sp M v → ∃ k, mB B v (vmu k m)) : ∃ x, x ∈ wu 3 (T3 s) p p ∧ ∀ q, (∀ v, Sp M v → Sp B (muv 3 (T3 s) v q)) → (p : Int) ∣ ph (-(x.1 : Int)) (-(x.2 : Int)) q := by
  have hP := prm_small (by omega) hq
  have p2 := hP.1
  have g := Sp_grp B
  have hmB : ¬ Sp B m := by
    intro h
    refine ne (fun v hv => ?_)
    obtain ⟨k, hk⟩ := hall v hv
    have := g.add hk (g.mul h k)
    have e : vad (vsu v (vmu k m)) (vmu k m) = v := by refine v3_ext ?_ ?_ ?_ <;> unfold vad vsu <;> dsimp only <;> omega
    rw [e] at this; exact this
  have dv : ∀ k : Int, Sp B (vmu k m) → (p : Int) ∣ k := by
    intro k hk
    apply Classical.byContradiction
    intro c
    obtain ⟨e, f, he⟩ := inv_ex hp2 hq c
    refine hmB ?_
    have := (Sp_grp B).2 _ _ (g.mul hk e) (g.mul (hpM m hm) f)
    have e2 : vsu (vmu e (vmu k m)) (vmu f (vmu (p : Int) m)) = m := by
      have e3 : e * k = 1 + p * f := by omega
      refine v3_ext ?_ ?_ ?_ <;> unfold vsu vmu <;> dsimp only
      · have : e * (k * m.1) - f * ((p : Int) * m.1) = (e * k - p * f) * m.1 := by grind
        rw [this, e3]; grind
      · have : e * (k * m.2.1) - f * ((p : Int) * m.2.1) = (e * k - p * f) * m.2.1 := by grind
        rw [this, e3]; grind
      · have : e * (k * m.2.2) - f * ((p : Int) * m.2.2) = (e * k - p * f) * m.2.2 := by grind
        rw [this, e3]; grind
    rw [e2] at this; exact this
  obtain ⟨c1, h1⟩ := hall _ (iM (eV 1) m hm)
  obtain ⟨c2, h2⟩ := hall _ (iM (eV 2) m hm)
  have act : ∀ z, mB B (muv 3 (T3 s) z m) (vmu (ph c1 c2 z) m) := by
    intro z
    have e0 : muv 3 (T3 s) (eV 0) m = m := muv_one (Or.inr rfl) (T3 s) m
    have e : muv 3 (T3 s) z m = vad (vad (vmu z.1 (muv 3 (T3 s) (eV 0) m)) (vmu z.2.1 (muv 3 (T3 s) (eV 1) m))) (vmu z.2.2 (muv 3 (T3 s) (eV 2) m)) := by
      rw [muv_comm]
      conv => lhs; rw [eV_sum z]
      rw [muv_add, muv_add, muv_mul, muv_mul, muv_mul, muv_comm 3 _ m, muv_comm 3 _ m, muv_comm 3 _ m]
    rw [e, e0]
    have e2 : vmu (ph c1 c2 z) m = vad (vad (vmu z.1 m) (vmu z.2.1 (vmu c1 m))) (vmu z.2.2 (vmu c2 m)) := by
      unfold ph; refine v3_ext ?_ ?_ ?_ <;> unfold vad vmu <;> dsimp only <;> grind
    rw [e2]
    exact (mB.rfl'.add (h1.smul z.2.1)).add (h2.smul z.2.2)
  have tw : ∀ {i j : Nat} {ci cj : Int} {t : V3}, muv 3 (T3 s) (eV i) (eV j) = t → mB B (muv 3 (T3 s) (eV i) m) (vmu ci m) → mB B (muv 3 (T3 s) (eV j) m) (vmu cj m) → (p : Int) ∣ (ph c1 c2 t - ci * cj) := by
    intro i j ci cj t ht hi hj
    refine dv _ (mB_sub ((act t).symm.tr ?_))
    rw [← ht, muv_assoc rr]
    refine (hj.mul iB (eV i)).tr ?_
    rw [muv_mul]
    refine (hi.smul cj).tr ?_
    have e : vmu cj (vmu ci m) = vmu (ci * cj) m := by refine v3_ext ?_ ?_ ?_ <;> unfold vmu <;> dsimp only <;> grind
    rw [e]; exact mB.rfl'
  have hw : wy 3 (T3 s) p c1 c2 := ⟨tw (mE11 s) h1 h1, fun _ => ⟨tw (mE12 s) h1 h2, tw (mE22 s) h2 h2⟩⟩
  obtain ⟨w, hwl, d1, d2⟩ := way_in (by omega) (fun h => absurd h (by decide)) hw
  refine ⟨w, hwl, fun q hq' => ?_⟩
  have b1 := hq' m hm
  rw [muv_comm] at b1
  have b2 : Sp B (vmu (ph c1 c2 q) m) := by
    have := (Sp_grp B).2 _ _ b1 (act q)
    have e : vsu (muv 3 (T3 s) q m) (vsu (muv 3 (T3 s) q m) (vmu (ph c1 c2 q) m)) = vmu (ph c1 c2 q) m := by refine v3_ext ?_ ?_ ?_ <;> unfold vsu <;> dsimp only <;> omega
    rw [e] at this; exact this
  have b3 := dv _ b2
  have e : ph (-(w.1 : Int)) (-(w.2 : Int)) q = ph c1 c2 q - (q.2.1 * (c1 - -(w.1 : Int)) + q.2.2 * (c2 - -(w.2 : Int))) := by unfold ph; grind
  rw [e]
  exact Int.dvd_sub b3 (Int.dvd_add (Int.dvd_mul_of_dvd_right d1) (Int.dvd_mul_of_dvd_right d2))
/-- the prime of degree 2 -/
theorem nl_two {s : Nat → Int} (rr : Rg 3 (T3 s)) {p : Nat} (hp2 : p ≤ 97) (hq : ipr (p : Int) = true) {R : Nat → Int} (iR : IdR 3 (T3 s) R) (h1 : ¬ Sp R (oneV 3)) (inv : invR 3 (T3 s) p R) (hpR : Sp R (vmu (p : Int) (oneV 3))) (hnm : nmR R ≤ (p : Int) * p) {x : Nat × Nat} (hL : wu 3 (T3 s) p p = [x]) (hx : ∃ q, Sp R q ∧ ¬ (p : Int) ∣ ph (-(x.1 : Int)) (-(x.2 : Int)) q) : NL 3 (T3 s) R := by
  intro B M hB hBP hM
  have hp := prm_small (by omega) hq
  have p2 := hp.1
  have hBM := q_in hB.2.2.1 hM
  have hpM := q_p (Or.inr rfl) hpR hM
  obtain ⟨a, b, c, e0, e4, e8, ha, hb, hc⟩ := diag hp hB.1.1 hM.1.1 hBM hpM
  have ne := q_more rr (by omega) iR.2.2.1 iR.2.1 h1 inv hB hBP hM
  have no : ¬ ((a = (p : Int) ∧ b = 1 ∧ c = 1) ∨ (a = 1 ∧ b = (p : Int) ∧ c = 1) ∨ (a = 1 ∧ b = 1 ∧ c = (p : Int))) := by
    intro hh
    obtain ⟨m, hm, hall⟩ := idx_p hB.1.1 hM.1.1 hBM e0 e4 e8 hh
    obtain ⟨w, hw, hk⟩ := idx_way rr hp2 hq hB.2.2.1 (hM.idl rr hB.2.2.1) ne hpM hm hall
    rw [hL, List.mem_singleton] at hw
    subst hw
    obtain ⟨q, hq1, hq2⟩ := hx
    exact hq2 (hk q (fun v hv => (hM.2.2 v).mp hv q hq1))
  have n1 : ¬ (a = 1 ∧ b = 1 ∧ c = 1) := by
    rintro ⟨rfl, rfl, rfl⟩
    rw [Int.one_mul] at e0 e4 e8
    exact ne (diag_one hB.1.1 hM.1.1 hBM e0 e4 e8)
  rw [nm_abc e0 e4 e8]
  refine le_nm (y := 0) hM.1 ?_
  have ppp : (p : Int) * p * 1 ≤ (p : Int) * p * p := Int.mul_le_mul_of_nonneg_left (by omega) (by have := Int.mul_pos (show (0 : Int) < p by omega) (show (0 : Int) < p by omega); omega)
  rcases ha with ha | ha <;> rcases hb with hb | hb <;> rcases hc with hc | hc
  · exact absurd ⟨ha, hb, hc⟩ n1
  · exact absurd (Or.inr (Or.inr ⟨ha, hb, hc⟩)) no
  · exact absurd (Or.inr (Or.inl ⟨ha, hb, hc⟩)) no
  · rw [ha, hb, hc, Int.one_mul]; exact hnm
  · exact absurd (Or.inl ⟨ha, hb, hc⟩) no
  · rw [ha, hb, hc, Int.mul_one]; exact hnm
  · rw [ha, hb, hc, Int.mul_one]; exact hnm
  · rw [ha, hb, hc]; omega
