/-! one call on fresh objects -/
def p1R (j : Nat) (I : sa_I) (J : sa_J) (I' : sa_I) (J' : sa_J) : Prop := j = 0 → (I = la_zI ∧ J = la_zJ ∧ I' = la_zI ∧ J' = la_zJ)
theorem p1_step {l : Launch} {D : va_G} {aI aL : ClassId} {ad ad' : Nat → Nat} {j : Nat} {I : sa_I} {J : sa_J} {I' : sa_I} {J' : sa_J} (hj : j = 0) (h : p1R j I J I' J') (k : Nat) (hk : k < 32) (a1 a2 a3 : Int32) : la_Step l D aI aL ad ad' (p1R (j + 1)) k a1 a2 a3 I J I' J' := by
  subst hj
  obtain ⟨rfl, rfl, rfl, rfl⟩ := h rfl
  have T : ∀ I J I' J', p1R (0 + 1) I J I' J' := fun _ _ _ _ q => absurd q (by decide)
  by_cases k2 : 2 ≤ k ∧ k ≤ 25
  · exact st_none rfl rfl (T _ _ _ _) k k2.1 k2.2
  · have h32 : k = 0 ∨ k = 1 ∨ k = 26 ∨ k = 27 ∨ k = 28 ∨ k = 29 ∨ k = 30 ∨ k = 31 := by omega
    rcases h32 with rfl | rfl | rfl | rfl | rfl | rfl | rfl | rfl
    · obtain ⟨a, ha, rfl⟩ := iI_of a1
      obtain ⟨b, hb, rfl⟩ := iI_of a2
      exact st_square ha hb (T _ _ _ _) (T _ _ _ _) (T _ _ _ _) (fun _ _ _ _ _ _ _ _ _ _ _ _ _ => T _ _ _ _)
    · obtain ⟨a, ha, rfl⟩ := iI_of a1
      obtain ⟨b, hb, rfl⟩ := iI_of a2
      obtain ⟨c, hc, rfl⟩ := iI_of a3
      exact st_cube ha hb hc (T _ _ _ _) (T _ _ _ _) (T _ _ _ _) (fun _ _ _ _ _ _ _ _ _ _ _ _ _ _ _ _ _ => T _ _ _ _)
    · exact st_count rfl rfl (fun _ => rfl) (T _ _ _ _)
    · exact T _ _ _ _
    · exact T _ _ _ _
    · exact T _ _ _ _
    · exact T _ _ _ _
    · exact T _ _ _ _
theorem whole_start {p : Program} {e : Env} {s : State} {m : MethodId} {below : List Frame} {meth : Method} {c : Code} (l : Launch) {b n : Nat} {xs : Nat → Int32} (hn : n ≤ 4) (C0 : lw_At p s m meth c b n xs) : W p l e room_1 s m #[Value.ref b] below meth c s.heap [] 0 0 (lw_Z below #[Value.ref b] s) (entryFrame m ([Value.ref b] : List Value).toArray 4) :=
  la_start l (Nat.le_trans hn (by decide)) C0 p1R (fun _ => ⟨rfl, rfl, rfl, rfl⟩) (fun D aI aL ad ad' j I J I' J' hj hr k hk a1 a2 a3 => p1_step (by omega) hr k hk a1 a2 a3)
