/-! norms fall at every prime over p -/
theorem pr_one {n : Nat} {T : Nat → Int} {p : Nat} (hp : 2 ≤ p) {x : Nat × Nat} (hx : isw n T p x) : ¬ Sp (prR p x.1 x.2) (oneV n) := by
  rw [Sp_prR, ph_one hx.z]
  intro h
  have := Int.le_of_dvd (by decide) h
  omega
theorem pr_p {n : Nat} {p : Nat} {x : Nat × Nat} : Sp (prR p x.1 x.2) (vmu (p : Int) (oneV n)) := by
  rw [Sp_prR, ph_smul]; exact Int.dvd_mul_right _ _
theorem nl_pr {n : Nat} {T : Nat → Int} (rr : Rg n T) (hm : MxA n T) {p : Nat} (hp2 : p ≤ 97) (hq : ipr (p : Int) = true) {x : Nat × Nat} (hx : isw n T p x) : NL n T (prR p x.1 x.2) := by
  have hp := prm_small (by omega) hq
  have p2 := hp.1
  refine nl_one rr hp (isw_IdR rr hp2 hx) (pr_one (by omega) hx) (inv_pr (inv_all rr hm hp2 hq hx)) pr_p ?_
  show (p : Int) * 1 * 1 ≤ p
  omega
theorem nla {n : Nat} {T : Nat → Int} (rr : Rg n T) (hm : MxA n T) : NLa n T := by
  intro p hp2 hq E hE
  have hp := prm_small (by omega) hq
  have p2 := hp.1
  have pp : (p : Int) * 1 ≤ (p : Int) * p := Int.mul_le_mul_of_nonneg_left (by omega) (by omega)
  have w : ∀ x, x ∈ wu n T p p → NL n T (prR p x.1 x.2) ∧ 2 ≤ nmR (prR p x.1 x.2) := fun x hx => ⟨nl_pr rr hm hp2 hq (wu_isw hx), by show (2 : Int) ≤ (p : Int) * 1 * 1; omega⟩
  have idr := spc_idr rr (by omega) hp2 hE
  have inv := spc_inv rr hm hp2 hq hE
  rcases hE with ⟨h1, rfl⟩ | ⟨h1, rfl⟩ | ⟨hn, x, h1, rfl⟩ | ⟨hn, x, h1, hr, rfl⟩ | ⟨hn, x, h1, hr, R, hH, hR2, hS, rfl⟩ | ⟨hn, x, y, h1, hr, rfl⟩ | ⟨hn, x, y, h1, hr, rfl⟩
  · intro e he
    rw [List.mem_singleton] at he
    subst he
    refine ⟨nl_sm rr hp, ?_⟩
    rcases rr.n with rfl | rfl
    · show (2 : Int) ≤ (p : Int) * p * 1; omega
    · show (2 : Int) ≤ (p : Int) * p * p
      have : (p : Int) * p * 1 ≤ (p : Int) * p * p := Int.mul_le_mul_of_nonneg_left (by omega) (by omega)
      omega
  · intro e he
    rw [List.mem_map] at he
    obtain ⟨x, hx, rfl⟩ := he
    exact w x hx
  · intro e he
    rw [List.mem_singleton] at he
    subst he; exact w x (by rw [h1]; simp)
  · intro e he
    rw [List.mem_singleton] at he
    subst he; exact w x (by rw [h1]; simp)
  · intro e he
    have hxm : x ∈ wu n T p p := by rw [h1]; simp
    have hx := wu_isw hxm
    have idR := idr (1, 2, R) (by simp)
    have invR' := inv (1, 2, R) (by simp)
    simp only [List.mem_cons, List.not_mem_nil, or_false] at he
    rcases he with rfl | rfl
    · exact w x hxm
    · subst hn
      obtain ⟨s, rfl, _⟩ := hm.1 rfl
      have one : ¬ Sp R (oneV 3) := by
        rw [hS]
        intro h
        have := h ((x.1 : Int), 1, 0) (by unfold ph; dsimp only; exact ⟨0, by omega⟩)
        rw [muv_one (Or.inr rfl), Sp_smR (Or.inr rfl)] at this
        have d1 : (p : Int) ∣ 1 := this.2.1
        have := Int.le_of_dvd (by decide) d1
        omega
      have hpR : Sp R (vmu (p : Int) (oneV 3)) := (hS _).mpr (qv_p (Or.inr rfl) (T3 s) p x _)
      have hQ : isQ 3 (T3 s) (prR p x.1 x.2) (smR 3 p) R := ⟨hH, hR2, fun b => (hS b).trans ⟨fun h y hy => h y (Sp_prR.mp hy), fun h y hy => h y (Sp_prR.mpr hy)⟩⟩
      have hin : inL (smR 3 p) (prR p x.1 x.2) := by
        intro v sv
        rw [Sp_smR (Or.inr rfl)] at sv
        rw [Sp_prR]
        unfold ph
        exact Int.dvd_add (Int.dvd_add sv.1 (Int.dvd_mul_of_dvd_left sv.2.1)) (Int.dvd_mul_of_dvd_left (sv.2.2 rfl))
      have nm := (w x hxm).1 _ R (smR_IdR (Or.inr rfl) (T3 s) (by omega) hp2) hin hQ
      have nm2 : nmR R ≤ (p : Int) * p := by
        have a1 : nmR (prR p x.1 x.2) = p := by show (p : Int) * 1 * 1 = p; omega
        have a2 : nmR (smR 3 p) = (p : Int) * p * p := rfl
        rw [a1, a2, Int.mul_comm ((p : Int) * p) p] at nm
        exact Int.le_of_mul_le_mul_left nm (by omega)
      refine ⟨nl_two rr hp2 hq idR one invR' hpR nm2 h1 ?_, ?_⟩
      · apply Classical.byContradiction
        intro c
        exact hr (fun v hv => Classical.byContradiction (fun c2 => c ⟨v, (hS v).mpr hv, c2⟩))
      · have r0 := hH.1.2.2.2.1
        have f := fst_nm hH
        apply Classical.byContradiction
        intro c
        have c' : ¬ (2 ≤ nmR R) := c
        have e1 : R 0 = 1 := by omega
        have := (Sp_in R).1
        rw [e1] at this
        exact one this
  · intro e he
    simp only [List.mem_cons, List.not_mem_nil, or_false] at he
    rcases he with rfl | rfl
    · exact w x (by rw [h1]; simp)
    · exact w y (by rw [h1]; simp)
  · intro e he
    simp only [List.mem_cons, List.not_mem_nil, or_false] at he
    rcases he with rfl | rfl
    · exact w x (by rw [h1]; simp)
    · exact w y (by rw [h1]; simp)
