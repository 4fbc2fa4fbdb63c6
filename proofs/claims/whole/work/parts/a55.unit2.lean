/-! unit: both walks -/
def nmU (n : Nat) (T : Nat → Int) (x : V3) : Int := if n = 2 then nm2 (T 12) (T 13) x else nmS (fun t => T (idx9 t)) x
def P1u (n : Nat) (T : Nat → Int) (x : V3) : Prop := ∃ k, 1 ≤ k ∧ k ≤ 12 ∧ pwV n T x k = (1, 0, 0)
/-- a power that is 1 makes all powers small -/
def USm (n : Nat) (T : Nat → Int) (x : V3) : Prop := P1u n T x → ∀ k c, c < 3 → bd (vk (pwV n T x k) c) 300
theorem pwV_pz (s : Nat → Int) (x : V3) : ∀ k, pwV 3 (T3 s) x k = pz3 s x k := by
  intro k
  induction k with
  | zero => rfl
  | succ k ih =>
    show muv 3 (T3 s) (pwV 3 (T3 s) x k) x = mu3 s (pz3 s x k) x
    rw [ih, muv3]
theorem pwV_z2 {T : Nat → Int} {x : V3} : ∀ k, (pwV 2 T x k).2.2 = 0 := by
  intro k
  induction k with
  | zero => rfl
  | succ k ih => show (muv 2 T (pwV 2 T x k) x).2.2 = 0; rw [muv2]; show (pwV 2 T x k).2.2 * x.2.2 = 0; rw [ih, Int.zero_mul]
theorem us_two {p q : Int} (hq : bd q 20) (hps : q * q + 4 * p ≠ 0 ∧ q * q + 4 * p ≠ 1 ∧ q * q + 4 * p ≠ 4) {x : V3} (hN : nmU 2 (T2 p q) x = 1 ∨ nmU 2 (T2 p q) x = -1) : USm 2 (T2 p q) x := by
  rintro ⟨j, j1, _, hj⟩ k c hc
  have hN' : nm2 p q x = 1 ∨ nm2 p q x = -1 := hN
  have g := un2 hq hps hN' j1 (by rw [hj]) k
  rcases below3 hc with rfl | rfl | rfl
  · exact g.1
  · exact g.2
  · show bd (pwV 2 (T2 p q) x k).2.2 300
    rw [pwV_z2]; exact ⟨by decide, by decide⟩
theorem us_three {s : Nat → Int} (hD : Dom s) {x : V3} (hN : nmU 3 (T3 s) x = 1 ∨ nmU 3 (T3 s) x = -1) : USm 3 (T3 s) x := by
  rintro ⟨j, j1, _, hj⟩ k c hc
  have e : nmU 3 (T3 s) x = nmS s x := rfl
  rw [e] at hN
  rw [pwV_pz] at hj ⊢
  have := pw3_pm (s := s) (un3' hD hN j1 hj) k
  rcases this with r | r <;> rw [r] <;> rcases below3 hc with rfl | rfl | rfl <;> exact ⟨by decide, by decide⟩
theorem muvBd {n : Nat} {T : Nat → Int} (rr : Rg n T) {v x : V3} {A B : Int} (hA : 0 ≤ A) (hB : 0 ≤ B) (hv : ∀ c, c < 3 → bd (vk v c) A) (hx : ∀ c, c < 3 → bd (vk x c) B) : ∀ c, c < 3 → bd (vk (muv n T v x) c) (A * B * 1000) := by
  have m : ∀ i j, i < 3 → j < 3 → bd (vk v i * vk x j) (A * B) := fun i j hi hj => bd_mul (hv i hi) (hx j hj)
  have AB : 0 ≤ A * B := Int.mul_nonneg hA hB
  have m00 := m 0 0 (by decide) (by decide)
  have m01 := m 0 1 (by decide) (by decide)
  have m02 := m 0 2 (by decide) (by decide)
  have m10 := m 1 0 (by decide) (by decide)
  have m11 := m 1 1 (by decide) (by decide)
  have m12 := m 1 2 (by decide) (by decide)
  have m20 := m 2 0 (by decide) (by decide)
  have m21 := m 2 1 (by decide) (by decide)
  have m22 := m 2 2 (by decide) (by decide)
  obtain ⟨a, b, c⟩ := v
  obtain ⟨d, e, f⟩ := x
  simp only [vk] at m00 m01 m02 m10 m11 m12 m20 m21 m22
  rcases rr with ⟨rfl, p, q, rfl, bp, bq⟩ | ⟨rfl, s, rfl, bs, _⟩
  · intro k hk
    rcases below3 hk with rfl | rfl | rfl
    · show bd (a * d + b * e * p) _
      exact bd_mono (bd_add m00 (bd_mul m11 bp)) (by omega)
    · show bd (a * e + b * d + b * e * q) _
      exact bd_mono (bd_add (bd_add m01 m10) (bd_mul m11 bq)) (by omega)
    · show bd (c * f) _
      exact bd_mono m22 (by omega)
  · intro k hk
    have b0 := bs 0 (by decide)
    have b1 := bs 1 (by decide)
    have b2 := bs 2 (by decide)
    have b3 := bs 3 (by decide)
    have b4 := bs 4 (by decide)
    have b5 := bs 5 (by decide)
    have b6 := bs 6 (by decide)
    have b7 := bs 7 (by decide)
    have b8 := bs 8 (by decide)
    have mm := bd_add m12 m21
    rcases below3 hk with rfl | rfl | rfl
    · show bd (a * d + b * e * s 0 + (b * f + c * e) * s 3 + c * f * s 6) _
      exact bd_mono (bd_add (bd_add (bd_add m00 (bd_mul m11 b0)) (bd_mul mm b3)) (bd_mul m22 b6)) (by omega)
    · show bd (a * e + b * d + b * e * s 1 + (b * f + c * e) * s 4 + c * f * s 7) _
      exact bd_mono (bd_add (bd_add (bd_add (bd_add m01 m10) (bd_mul m11 b1)) (bd_mul mm b4)) (bd_mul m22 b7)) (by omega)
    · show bd (a * f + c * d + b * e * s 2 + (b * f + c * e) * s 5 + c * f * s 8) _
      exact bd_mono (bd_add (bd_add (bd_add (bd_add m02 m20) (bd_mul m11 b2)) (bd_mul mm b5)) (bd_mul m22 b8)) (by omega)
def big (w : V3) : Prop := ∃ c, c < 3 ∧ ¬ bd (vk w c) 1000000
section UN
variable {l : Launch} {D : va_G} {aI aL : ClassId} {ad : Nat → Nat} {P : sa_P} {I : sa_I} {J : sa_J}
theorem absLe6 {z : Int} : ((z.natAbs : Nat) : Int) ≤ 1000000 ↔ bd z 1000000 := ⟨fun h => ⟨by omega, by omega⟩, fun h => by have := h.1; have := h.2; omega⟩
/-- one place of the power taken over -/
theorem hp_in {w : V3} (hw : ∀ c, c < 3 → bd (vk w c) 100000000000000000) {i k : Nat} {J0 : sa_J} (kfar : big w → ∀ J1, (∀ q, q ≠ 12 → J1 q = J0 q) → P (some (.int 0)) I J1) (kgo : ¬ big w → ∀ J1, (∀ q, q ≠ 12 → J1 q = J0 q) → (∀ c, c < 3 → J1 12 c = lI (vk w c)) → Sat (EC l D aI aL ad) M_X4_hasPowerOne P 88 [(0, .ref (ad 4)), (1, .ref (ad 2)), (2, .int (nI (3 * i))), (3, .int (nI k))] [] I J1) : ∀ (d j : Nat), j + d = 3 → ∀ J : sa_J, (∀ q, q ≠ 12 → J q = J0 q) → (∀ c, c < 3 → J0 9 c = lI (vk w c)) → (∀ c, c < j → J 12 c = lI (vk w c) ∧ bd (vk w c) 1000000) → Sat (EC l D aI aL ad) M_X4_hasPowerOne P 43 [(0, .ref (ad 4)), (1, .ref (ad 2)), (2, .int (nI (3 * i))), (3, .int (nI k)), (4, .int (nI j))] [] I J := by
  intro d
  induction d with
  | zero =>
    intro j e J f h9 hj
    have ej : j = 3 := by omega
    subst ej
    refine bX4_hasPowerOne_43 aJ_C2 (by decide) (fun _ => kgo ?_ J f (fun c hc => (hj c hc).1)) (fun c => absurd (by decide) c)
    rintro ⟨c, hc, hb⟩
    exact hb (hj c hc).2
  | succ d ih =>
    intro j e J f h9 hj
    refine bX4_hasPowerOne_43 aJ_C2 (by decide) (fun c => absurd c (by rw [nI_lit 3, nJ_le (by omega) (by omega)]; omega)) (fun _ => ?_)
    refine bX4_hasPowerOne_49 (j53 := j) (j59 := j) (j67 := j) (v62 := lI (vk w j)) aJ_C2 (by decide) rfl rfl (by omega) (by omega) rfl (by omega) (by rw [f 9 (by decide)]; exact h9 j (by omega)) ?_
    have ev : sa_uJ J 12 j (lI (vk w j)) 12 j = lI (vk w j) := sa_uJ_at
    rw [ev]
    have bw := hw j (by omega)
    refine v_X4_118 dX4_hasPowerOne_70 rfl ⟨rfl, rfl, Nat.le_of_ble_eq_true rfl, Nat.le_of_ble_eq_true rfl⟩ (c_abs (a := vk w j) (bd_rg bw (by decide)) (by have := bw.1; omega)) rfl rfl (Nat.le_of_ble_eq_true rfl) (fun r I1 J1 hq => ?_)
    obtain ⟨rfl, e1, e2⟩ := hq
    obtain rfl := e1.symm
    obtain rfl := e2.symm
    have f' : ∀ q, q ≠ 12 → sa_uJ J 12 j (lI (vk w j)) q = J0 q := fun q h => by rw [sa_uJ_ne h]; exact f q h
    have ga : rg ((vk w j).natAbs : Int) := ⟨by omega, by have := bw.1; have := bw.2; omega⟩
    refine bX4_hasPowerOne_73 aJ_C2 (by decide) (fun c => ?_) (fun c => ?_)
    · have c1 := absLe6.mp ((lI_le ga (b := 1000000) ⟨by omega, by omega⟩).mp c)
      refine bX4_hasPowerOne_82 (v82 := nI (j + 1)) aJ_C2 (by decide) (nI_addE j 1) (ih (j + 1) (by omega) _ f' h9 (fun c hc => ?_))
      by_cases cc : c = j
      · subst cc; exact ⟨ev, c1⟩
      · have := hj c (by omega)
        refine ⟨?_, this.2⟩
        rw [← this.1]; exact sa_uJ_off cc
    · exact bX4_hasPowerOne_80 (kfar ⟨j, by omega, fun q => c ((lI_le ga (b := 1000000) ⟨by omega, by omega⟩).mpr (absLe6.mpr q))⟩ _ f')
end UN
