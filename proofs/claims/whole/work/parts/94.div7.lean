def bI (b : Bool) : Int32 := if b then 1 else 0
section D7
variable {l : Launch} {D : va_G} {aI aL : ClassId} {ad : Nat → Nat} {P : sa_P} {I : sa_I} {J : sa_J}
/-- the reference's divide: one place of the answer -/
theorem dl_step {n j : Nat} {be z : Int64} {b : Bool} {Jc : sa_J} (hd : I 0 1 = nI n) (hj : j < n) (hn : n ≤ 3) (hbe : ¬ be = 0) (hz : Jc 12 j = z) (k : Sat (ER l D aI aL ad) M_X7_divide P 212 [(0, .ref (ad 0)), (1, .long be), (13, .int (bI (b && decide (rm z be = 0)))), (14, .int (nI (j + 1)))] [] I (sa_uJ Jc 12 j (z / be))) : Sat (ER l D aI aL ad) M_X7_divide P 212 [(0, .ref (ad 0)), (1, .long be), (13, .int (bI b)), (14, .int (nI j))] [] I Jc := by
  refine bX7_divide_212 (fun c => ?_) (fun _ => bX7_divide_221 (fun c => ?_) (fun c => ?_))
  · rw [hd] at c
    have := (nJ_le (by omega) (by omega)).mp c
    omega
  · have hb : b = false := by
      cases b with
      | false => rfl
      | true => exact absurd c (by decide)
    subst hb
    rw [Bool.false_and] at k
    exact bX7_divide_244 (bX7_divide_245 (j251 := j) (v257 := z / be) (v258 := nI (j + 1)) rfl (by omega) hbe (by omega) (by rw [hz]) (nI_addE j 1) k)
  · have hb : b = true := by
      cases b with
      | true => rfl
      | false => exact absurd rfl c
    subst hb
    rw [Bool.true_and] at k
    refine bX7_divide_226 (j230 := j) rfl (by omega) hbe (fun c => ?_) (fun c => ?_)
    · rw [hz] at c
      rw [decide_eq_false (show ¬ rm z be = 0 from c)] at k
      exact bX7_divide_244 (bX7_divide_245 (j251 := j) (v257 := z / be) (v258 := nI (j + 1)) rfl (by omega) hbe (by omega) (by rw [hz]) (nI_addE j 1) k)
    · rw [hz] at c
      rw [decide_eq_true (show rm z be = 0 from c)] at k
      exact bX7_divide_240 (bX7_divide_245 (j251 := j) (v257 := z / be) (v258 := nI (j + 1)) rfl (by omega) hbe (by omega) (by rw [hz]) (nI_addE j 1) k)
theorem bI_nar (b : Bool) : narrow .boolean (.int (bI b)) = .int (bI b) := by cases b <;> rfl
theorem dl_end2 {be : Int64} {Jz : sa_J} (hd : I 0 1 = nI 2) (hbe : ¬ be = 0) (k : P (some (.int (bI (decide (rm (Jz 12 0) be = 0) && decide (rm (Jz 12 1) be = 0))))) I (sa_uJ (sa_uJ Jz 12 0 (Jz 12 0 / be)) 12 1 (Jz 12 1 / be))) : Sat (ER l D aI aL ad) M_X7_divide P 206 [(0, .ref (ad 0)), (1, .long be)] [] I Jz := by
  refine bX7_divide_206 (v207 := bI true) (v210 := nI 0) rfl rfl ?_
  refine dl_step (j := 0) hd (by decide) (by decide) hbe rfl ?_
  refine dl_step (j := 1) (z := Jz 12 1) hd (by decide) (by decide) hbe rfl ?_
  refine bX7_divide_212 (fun _ => bX7_divide_264 (bI_nar _) ?_) (fun c => absurd (by rw [hd]; decide) c)
  rw [Bool.true_and]; exact k
theorem dl_end3 {be : Int64} {Jz : sa_J} (hd : I 0 1 = nI 3) (hbe : ¬ be = 0) (k : P (some (.int (bI (decide (rm (Jz 12 0) be = 0) && decide (rm (Jz 12 1) be = 0) && decide (rm (Jz 12 2) be = 0))))) I (sa_uJ (sa_uJ (sa_uJ Jz 12 0 (Jz 12 0 / be)) 12 1 (Jz 12 1 / be)) 12 2 (Jz 12 2 / be))) : Sat (ER l D aI aL ad) M_X7_divide P 206 [(0, .ref (ad 0)), (1, .long be)] [] I Jz := by
  refine bX7_divide_206 (v207 := bI true) (v210 := nI 0) rfl rfl ?_
  refine dl_step (j := 0) hd (by decide) (by decide) hbe rfl ?_
  refine dl_step (j := 1) (z := Jz 12 1) hd (by decide) (by decide) hbe rfl ?_
  refine dl_step (j := 2) (z := Jz 12 2) hd (by decide) (by decide) hbe rfl ?_
  refine bX7_divide_212 (fun _ => bX7_divide_264 (bI_nar _) ?_) (fun c => absurd (by rw [hd]; decide) c)
  rw [Bool.true_and]; exact k
end D7
