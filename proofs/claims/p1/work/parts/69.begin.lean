/-- the reference's growing by one prime number, then by all -/
def bgW (W : Q4 → Bool) (n : Nat) (p : Int) : Nat → Q4 → Q4 → Option (Q4 × Q4)
  | 0, _, _ => none
  | k + 1, f, s => match grI W n f s p with
    | none => none
    | some (false, f', s') => some (f', s')
    | some (true, f', s') => bgW W n p k f' s'
def bgP (W : Q4 → Bool) (n : Nat) (D : Int) : Nat → Int → Q4 → Q4 → Option (Q4 × Q4)
  | 0, _, _, _ => none
  | k + 1, p, f, s => if (D.natAbs : Int) < p * p then some (f, s) else
    if D.tmod (p * p) = 0 ∧ ipr p = true then
      match bgW W n p 12 f s with
      | none => none
      | some (f', s') => bgP W n D k (p + 1) f' s'
    else bgP W n D k (p + 1) f s
def fr5 (J J' : sa_J) : Prop := ∀ q, q ≠ 5 → q ≠ 6 → q ≠ 7 → q ≠ 8 → q ≠ 9 → J' q = J q
section BG
variable {l : Launch} {D : va_G} {aI aL : ClassId} {ad : Nat → Nat} {P : sa_P} {I : sa_I} {J : sa_J}
theorem bg_W {n : Nat} {f0 f1 f2 p : Int} (hp2 : 2 ≤ p) (hp : p ≤ 110) (hpol : pol I n f0 f1 f2) {f' s' : Q4} (kk : ∀ J2, at4 J2 5 f' → ok4 f' = true → at4 J2 6 s' → ok4 s' = true → fr5 J J2 → Sat (ER l D aI aL ad) M_X7_begins P 109 [(0, .ref (ad 0)), (1, .int (iI p))] [] I J2) : ∀ (k : Nat) (f s : Q4) (J' : sa_J), at4 J' 5 f → ok4 f = true → at4 J' 6 s → ok4 s = true → fr5 J J' → bgW (wI n f0 f1 f2) n p k f s = some (f', s') → Sat (ER l D aI aL ad) M_X7_begins P 96 [(0, .ref (ad 0)), (1, .int (iI p)), (2, .int 1)] [] I J' := by
  intro k
  induction k with
  | zero => intro f s J' _ _ _ _ _ h; simp [bgW] at h
  | succ k ih =>
    intro f s J' hf of hs os hfr h
    unfold bgW at h
    rcases hg : grI (wI n f0 f1 f2) n f s p with _ | ⟨b, f2', s2⟩
    · rw [hg] at h; simp at h
    · rw [hg] at h
      obtain ⟨cg, of', os'⟩ := c_grows (l := l) (D := D) (aI := aI) (aL := aL) (ad := ad) hp2 hp hpol hf of hs os hg
      refine bX7_begins_96 (fun c => absurd c (by decide)) (fun _ => bX7_begins_100 (v_X7_129 dX7_begins_102 rfl ⟨rfl, rfl, Nat.le_of_ble_eq_true rfl, Nat.le_of_ble_eq_true rfl⟩ cg rfl rfl (Nat.le_of_ble_eq_true rfl) (fun r I1 J1 hp => ?_)))
      obtain ⟨rfl, rfl, a5, a6, g⟩ := hp
      have hfr1 : fr5 J J1 := fun q a b c d e => (g q a b c d e).trans (hfr q a b c d e)
      refine bX7_begins_105 ?_
      cases b with
      | false =>
        obtain ⟨rfl, rfl⟩ : f2' = f' ∧ s2 = s' := by simpa using h
        exact bX7_begins_96 (fun _ => kk J1 a5 of' a6 os' hfr1) (fun c => absurd rfl c)
      | true => exact ih f2' s2 J1 a5 of' a6 os' hfr1 h
theorem bg_P {n : Nat} {f0 f1 f2 Di : Int} (hD : J 0 11 = lI Di) (hDb : bd Di 12000) (hpol : pol I n f0 f1 f2) {f' s' : Q4} (kk : ∀ J2, at4 J2 5 f' → ok4 f' = true → at4 J2 6 s' → ok4 s' = true → fr5 J J2 → Sat (ER l D aI aL ad) M_X7_begins P 115 [(0, .ref (ad 0))] [] I J2) : ∀ (k : Nat) (p : Int) (f s : Q4) (J' : sa_J), p + k = 110 → 2 ≤ p → at4 J' 5 f → ok4 f = true → at4 J' 6 s → ok4 s = true → fr5 J J' → bgP (wI n f0 f1 f2) n Di k p f s = some (f', s') → Sat (ER l D aI aL ad) M_X7_begins P 52 [(0, .ref (ad 0)), (1, .int (iI p))] [] I J' := by
  have rD := bd_rg hDb (by decide)
  intro k
  induction k with
  | zero => intro p f s J' _ _ _ _ _ _ _ h; simp [bgP] at h
  | succ k ih =>
    intro p f s J' hk hp2 hf of hs os hfr h
    have rp : rgi p := ⟨by omega, by omega⟩
    have bp : bd p 110 := ⟨by omega, by omega⟩
    have bpp := bd_mul bp bp
    have rpp := bd_rg bpp (by decide)
    have pos : 0 < p * p := Int.mul_pos (by omega) (by omega)
    have hJ : J' 0 11 = lI Di := by rw [hfr 0 (by decide) (by decide) (by decide) (by decide) (by decide)]; exact hD
    have hb1 := hDb.1
    have hb2 := hDb.2
    refine bX7_begins_52 ?_
    rw [hJ, iI_lI rp, lI_mul]
    refine v_X7_90 dX7_begins_61 rfl ⟨rfl, rfl, Nat.le_of_ble_eq_true rfl, Nat.le_of_ble_eq_true rfl⟩ (c_abs rD (by omega)) rfl rfl (Nat.le_of_ble_eq_true rfl) (fun r I1 J1 hp => ?_)
    obtain ⟨rfl, e2, e3⟩ := hp
    obtain rfl := e2.symm
    obtain rfl := e3.symm
    unfold bgP at h
    have rn : rg (Di.natAbs : Int) := ⟨by omega, by omega⟩
    refine bX7_begins_64 (fun c => ?_) (fun c => ?_)
    · have c := (lI_lt rn rpp).mp c
      rw [if_pos c] at h
      obtain ⟨rfl, rfl⟩ : f = f' ∧ s = s' := by simpa using h
      exact kk _ hf of hs os hfr
    · have c : ¬ (Di.natAbs : Int) < p * p := fun q => c ((lI_lt rn rpp).mpr q)
      rw [if_neg c] at h
      have z : ¬ (iI p).toInt64 * (iI p).toInt64 = 0 := by
        rw [iI_lI rp, lI_mul]; exact fun e => by have := (lI_eq rpp (b := 0) ⟨by omega, by omega⟩).mp e; omega
      have nxt : bgP (wI n f0 f1 f2) n Di k (p + 1) f s = some (f', s') → Sat (ER l D aI aL ad) M_X7_begins P 94 [(0, .ref (ad 0)), (1, .int (iI p))] [] I J' := fun h => bX7_begins_94 (bX7_begins_95 (bX7_begins_96 (fun _ => bX7_begins_109 (v109 := iI (p + 1)) (iI_add p 1) (ih (p + 1) f s J' (by omega) (by omega) hf of hs os hfr h)) (fun c => absurd rfl c)))
      have eqv : (J' 0 11 - J' 0 11 / ((iI p).toInt64 * (iI p).toInt64) * ((iI p).toInt64 * (iI p).toInt64) = (0 : Int64)) ↔ Di.tmod (p * p) = 0 := by
        rw [hJ, iI_lI rp, lI_mul]; exact rm_I rD rpp pos
      refine bX7_begins_68 z (fun c => ?_) (fun c => ?_)
      · have c := fun q => c (eqv.mpr q)
        rw [if_neg (fun q => c q.1)] at h
        exact nxt h
      · have c := eqv.mp c
        refine bX7_begins_83 (v_X7_125 dX7_begins_84 rfl ⟨rfl, rfl, Nat.le_of_ble_eq_true rfl, Nat.le_of_ble_eq_true rfl⟩ (c_isPrime7 rp (by omega)) rfl rfl (Nat.le_of_ble_eq_true rfl) (fun r I1 J1 hp => ?_))
        obtain ⟨rfl, e2, e3⟩ := hp
        obtain rfl := e2.symm
        obtain rfl := e3.symm
        rcases hi : ipr p with _ | _
        · rw [if_neg (fun q => by rw [hi] at q; exact absurd q.2 (by decide))] at h
          exact bX7_begins_87 (fun _ => nxt h) (fun c => absurd rfl c)
        · rw [if_pos ⟨c, hi⟩] at h
          refine bX7_begins_87 (fun c => absurd c (by decide)) (fun _ => bX7_begins_90 (bX7_begins_95 ?_))
          rcases hw : bgW (wI n f0 f1 f2) n p 12 f s with _ | ⟨f3, s3⟩
          · rw [hw] at h; simp at h
          · rw [hw] at h
            exact bg_W (J := J) hp2 (by omega) hpol (fun J2 a5 o5 a6 o6 hfr2 => bX7_begins_109 (v109 := iI (p + 1)) (iI_add p 1) (ih (p + 1) f3 s3 J2 (by omega) (by omega) a5 o5 a6 o6 hfr2 h)) 12 f s _ hf of hs os hfr hw
end BG
