/-! prime numbers up to 1000000, by trial -/
def ipF (p : Int) : Nat → Int → Bool
  | 0, _ => true
  | f + 1, q => if p < q * q then true else if p % q = 0 then false else ipF p f (q + 1)
def ipr (p : Int) : Bool := decide (2 ≤ p) && ipF p 1000 2
section IP
variable {E : sa_E} {P : sa_P} {I : sa_I} {J : sa_J}
theorem ip7_loop {p : Int} (h2 : 2 ≤ p) (hp : p ≤ 1000000) : ∀ (f : Nat) (q : Int), q + f = 1002 → 2 ≤ q → P (some (.int (if ipF p f q then 1 else 0))) I J → Sat E M_X7_isPrime P 9 [(0, .int (iI p)), (1, .int (iI q))] [] I J := by
  intro f
  have rp : rgi p := ⟨by omega, by omega⟩
  induction f with
  | zero =>
    intro q e h hP
    obtain rfl : q = 1002 := by omega
    refine bX7_isPrime_9 (fun _ => bX7_isPrime_30 hP) (fun c => absurd ?_ c)
    rw [iI_mul, iI_lt rp ⟨by omega, by omega⟩]; omega
  | succ f ih =>
    intro q e h hP
    have m1 : q * q ≤ 1002 * 1002 := Int.mul_le_mul (by omega) (by omega) (by omega) (by omega)
    have m0 : 0 ≤ q * q := Int.mul_nonneg (by omega) (by omega)
    have rq : rgi q := ⟨by omega, by omega⟩
    refine bX7_isPrime_9 (fun c => ?_) (fun c => ?_)
    · rw [iI_mul, iI_lt rp ⟨by omega, by omega⟩] at c
      rw [ipF, if_pos c] at hP
      exact bX7_isPrime_30 hP
    · rw [iI_mul, iI_lt rp ⟨by omega, by omega⟩] at c
      rw [ipF, if_neg c] at hP
      have hm := Int.emod_nonneg p (show q ≠ 0 by omega)
      have hm2 := Int.emod_lt_of_pos p (show 0 < q by omega)
      refine bX7_isPrime_16 (fun z => by have := (iI_eq rq (b := 0) ⟨by omega, by omega⟩).mp z; omega) (fun c2 => ?_) (fun c2 => ?_)
      · rw [iI_rem rp rq (by omega), Int.tmod_eq_emod_of_nonneg (by omega)] at c2
        have c3 : ¬ p % q = 0 := fun z => c2 (by rw [z]; rfl)
        rw [if_neg c3] at hP
        exact bX7_isPrime_24 (iI_add q 1) (ih (q + 1) (by omega) (by omega) hP)
      · rw [iI_rem rp rq (by omega), Int.tmod_eq_emod_of_nonneg (by omega)] at c2
        have c3 := (iI_eq ⟨by omega, by omega⟩ (b := 0) ⟨by omega, by omega⟩).mp c2
        rw [if_pos c3] at hP
        exact bX7_isPrime_22 hP
theorem c_isPrime7 {p : Int} (hr : rgi p) (hp : p ≤ 1000000) : Con E M_X7_isPrime yX7_isPrime [.int (iI p)] I J (p_i (if ipr p then 1 else 0) I J) := by
  refine Con.of (by decide +kernel) rfl (Nat.le_of_ble_eq_true rfl) ?_
  refine bX7_isPrime_0 (fun c => ?_) (fun c => ?_)
  · have c := (iI_le (a := 2) ⟨by omega, by omega⟩ hr).mp c
    refine bX7_isPrime_7 (v8 := iI 2) rfl (ip7_loop c hp 1000 2 (by omega) (by omega) ⟨?_, rfl, rfl⟩)
    simp only [ipr, c, decide_true, Bool.true_and]
  · have c : ¬ 2 ≤ p := fun q => c ((iI_le (a := 2) ⟨by omega, by omega⟩ hr).mpr q)
    refine bX7_isPrime_5 ⟨?_, rfl, rfl⟩
    rw [if_neg]; simp only [ipr, Bool.and_eq_true, decide_eq_true_eq]; exact fun q => c q.1
theorem ip6_loop {p : Int} (h2 : 2 ≤ p) (hp : p ≤ 1000000) : ∀ (f : Nat) (q : Int), q + f = 1002 → 2 ≤ q → P (some (.int (if ipF p f q then 1 else 0))) I J → Sat E M_X6_isPrimeNumber P 14 [(0, .long (lI p)), (2, .long (lI q))] [] I J := by
  intro f
  have rp : rg p := ⟨by omega, by omega⟩
  induction f with
  | zero =>
    intro q e h hP
    obtain rfl : q = 1002 := by omega
    refine bX6_isPrimeNumber_14 (fun _ => bX6_isPrimeNumber_39 hP) (fun c => absurd ?_ c)
    rw [lI_mul, lI_lt rp ⟨by omega, by omega⟩]; omega
  | succ f ih =>
    intro q e h hP
    have m1 : q * q ≤ 1002 * 1002 := Int.mul_le_mul (by omega) (by omega) (by omega) (by omega)
    have m0 : 0 ≤ q * q := Int.mul_nonneg (by omega) (by omega)
    have rq : rg q := ⟨by omega, by omega⟩
    refine bX6_isPrimeNumber_14 (fun c => ?_) (fun c => ?_)
    · rw [lI_mul, lI_lt rp ⟨by omega, by omega⟩] at c
      rw [ipF, if_pos c] at hP
      exact bX6_isPrimeNumber_39 hP
    · rw [lI_mul, lI_lt rp ⟨by omega, by omega⟩] at c
      rw [ipF, if_neg c] at hP
      have hm := Int.emod_nonneg p (show q ≠ 0 by omega)
      have hm2 := Int.emod_lt_of_pos p (show 0 < q by omega)
      refine bX6_isPrimeNumber_22 (fun z => by have := (lI_eq rq (b := 0) ⟨by omega, by omega⟩).mp z; omega) (fun c2 => ?_) (fun c2 => ?_)
      · rw [lI_rem rp rq (by omega), Int.tmod_eq_emod_of_nonneg (by omega)] at c2
        have c3 : ¬ p % q = 0 := fun z => c2 (by rw [z]; rfl)
        rw [if_neg c3] at hP
        exact bX6_isPrimeNumber_32 (lI_add q 1) (ih (q + 1) (by omega) (by omega) hP)
      · rw [lI_rem rp rq (by omega), Int.tmod_eq_emod_of_nonneg (by omega)] at c2
        have c3 := (lI_eq ⟨by omega, by omega⟩ (b := 0) ⟨by omega, by omega⟩).mp c2
        rw [if_pos c3] at hP
        exact bX6_isPrimeNumber_30 hP
theorem c_isPrimeNumber {p : Int} (hr : rg p) (hp : p ≤ 1000000) : Con E M_X6_isPrimeNumber yX6_isPrimeNumber [.long (lI p)] I J (p_i (if ipr p then 1 else 0) I J) := by
  refine Con.of (by decide +kernel) rfl (Nat.le_of_ble_eq_true rfl) ?_
  refine bX6_isPrimeNumber_0 (fun c => ?_) (fun c => ?_)
  · have c := (lI_le (a := 2) ⟨by omega, by omega⟩ hr).mp c
    refine bX6_isPrimeNumber_10 (v13 := lI 2) rfl (ip6_loop c hp 1000 2 (by omega) (by omega) ⟨?_, rfl, rfl⟩)
    simp only [ipr, c, decide_true, Bool.true_and]
  · have c : ¬ 2 ≤ p := fun q => c ((lI_le (a := 2) ⟨by omega, by omega⟩ hr).mpr q)
    refine bX6_isPrimeNumber_8 ⟨?_, rfl, rfl⟩
    rw [if_neg]; simp only [ipr, Bool.and_eq_true, decide_eq_true_eq]; exact fun q => c q.1
end IP
