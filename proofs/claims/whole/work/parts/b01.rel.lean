/-! what holds between the two memories, and what keeps it -/
def StF (n : Nat) (h d k l e Di dd : Int) (T : Nat → Int) : Prop := Fld n h d k l e Di dd T ∧ MxA n T ∧ NLa n T ∧ (∀ x, (nmU n T x = 1 ∨ nmU n T x = -1) → USm n T x) ∧ FOT n T dd ∧ OrT n T
def RF (n : Nat) (h d k l e Di dd : Int) (T : Nat → Int) (ne ni : Nat) (Ev Rv : Nat → Int) (I : sa_I) (J : sa_J) (I' : sa_I) (J' : sa_J) : Prop := (∀ t, I 1 t = I' 1 t) ∧ (J 26 0 = 0 ∧ J 26 2 = 0) ∧ clS n h d k l e Di dd T I J ∧ rfS n h d k l e Di dd T I' J' ∧ ElS n ne Ev I J I' ∧ IdS n ni T Rv I J I' ∧ PCc n T I J ∧ PCr n T I' J' ∧ (n = 2 → fcC dd I J) ∧ (n = 2 → fcR dd I' J')
def Rel1 (I : sa_I) (J : sa_J) (I' : sa_I) (J' : sa_J) : Prop := (∀ t, I 1 t = I' 1 t) ∧ (J 26 0 = 0 ∧ J 26 2 = 0) ∧ I 4 0 = 0 ∧ I' 0 1 = 0 ∧ I 0 8 = I' 0 13 ∧ I 0 9 = I' 0 14
def Rel0 (I : sa_I) (J : sa_J) (I' : sa_I) (J' : sa_J) : Prop := Rel1 I J I' J' ∨ ∃ n h d k l e Di dd T, StF n h d k l e Di dd T ∧ ∃ ne ni Ev Rv, RF n h d k l e Di dd T ne ni Ev Rv I J I' J'
section RA
variable {n ne ni : Nat} {h d k l e Di dd : Int} {T Ev Rv : Nat → Int} {I I1 I2 I' : sa_I} {J J1 J2 J' : sa_J}
theorem clS.kp (H : clS n h d k l e Di dd T I J) (a : I1 4 = I 4) (b : ∀ q, q = 4 ∨ q = 6 ∨ q = 7 ∨ q = 8 → J1 q = J q) : clS n h d k l e Di dd T I1 J1 := by
  unfold clS
  rw [a, b 4 (by decide), b 6 (by decide), b 7 (by decide), b 8 (by decide)]
  exact H
theorem rfS.kp (H : rfS n h d k l e Di dd T I J) (a : ∀ t, t < 10 → I1 0 t = I 0 t) (b : ∀ t, t < 12 → J1 0 t = J 0 t) (c : J1 2 = J 2) : rfS n h d k l e Di dd T I1 J1 := by
  unfold rfS
  rw [a 1 (by decide), a 5 (by decide), a 6 (by decide), a 7 (by decide), a 8 (by decide), a 9 (by decide), b 10 (by decide), b 11 (by decide), c]
  exact H
theorem ElS.kp (H : ElS n ne Ev I J I') (a : I1 0 8 = I 0 8) (b : J1 2 = J 2) (c : I2 0 13 = I' 0 13) (d : I2 3 = I' 3) : ElS n ne Ev I1 J1 I2 := by
  unfold ElS
  rw [a, b, c, d]
  exact H
theorem IdS.kp (H : IdS n ni T Rv I J I') (a : I1 0 9 = I 0 9) (b : J1 3 = J 3) (c : I2 0 14 = I' 0 14) (d : I2 4 = I' 4) : IdS n ni T Rv I1 J1 I2 := by
  unfold IdS
  rw [a, b, c, d]
  exact H
theorem PCc.kp (H : PCc n T I J) (a : I1 21 = I 21) (b : I1 22 = I 22) (c : I1 23 = I 23) (d : J1 24 = J 24) : PCc n T I1 J1 := fun p hp hq e => by
  rw [a] at e
  obtain ⟨E, h1, h2⟩ := H p hp hq e
  exact ⟨E, h1, h2.keep (by rw [a]) b c (fun t _ => by rw [d])⟩
theorem PCr.kp (H : PCr n T I J) (a : I1 0 31 = I 0 31) (b : I1 0 32 = I 0 32) (c : I1 19 = I 19) (d : I1 20 = I 20) (f : J1 18 = J 18) : PCr n T I1 J1 := fun p hp hq e => by
  rw [a] at e
  obtain ⟨E, h1, h2⟩ := H p hp hq e
  exact ⟨E, h1, by rw [b]; exact h2.1, fun i e he => by rw [c, d, f]; exact h2.2 i e he⟩
theorem fcC.kp {D : Int} (H : fcC D I J) (a : I1 27 = I 27) (b : I1 28 = I 28) (c : I1 29 = I 29) (d : J1 27 = J 27) : fcC D I1 J1 := H.imp (fun z => by rw [a]; exact z) (fun z => z.keep a b c (by rw [d]) (by rw [d]))
theorem fcR.kp {D : Int} (H : fcR D I J) (a : I1 0 36 = I 0 36) (b : ∀ q, q = 21 ∨ q = 22 ∨ q = 23 ∨ q = 24 → I1 q = I q) (c : J1 0 41 = J 0 41) : fcR D I1 J1 := H.imp (fun z => by rw [a]; exact z) (fun z => z.keep a b c)
theorem RF.fr (H : RF n h d k l e Di dd T ne ni Ev Rv I J I' J') (a : ∀ q, q ≠ 1 → q ≠ 14 → I1 q = I q) (b : SC J J1) (c : ∀ q, q ≠ 0 → q ≠ 1 → I2 q = I' q) (f : ∀ t, t ≠ 27 → I2 0 t = I' 0 t) (g : SR J' J2) (m : ∀ t, I1 1 t = I2 1 t) : RF n h d k l e Di dd T ne ni Ev Rv I1 J1 I2 J2 := by
  obtain ⟨_, ⟨z0, z2⟩, h1, h2, h3, h4, h5, h6, h7, h8⟩ := H
  have j26 : J1 26 = J 26 := b 26 (by unfold kC; omega)
  refine ⟨m, ⟨by rw [j26]; exact z0, by rw [j26]; exact z2⟩, h1.kp (a 4 (by decide) (by decide)) (fun q hq => b q (by unfold kC; omega)), h2.kp (fun t ht => f t (by omega)) (fun t ht => g.2 t (by omega)) (g.1 2 (Or.inl rfl)), h3.kp (by rw [a 0 (by decide) (by decide)]) (b 2 (by unfold kC; omega)) (f 13 (by decide)) (c 3 (by decide) (by decide)), h4.kp (by rw [a 0 (by decide) (by decide)]) (b 3 (by unfold kC; omega)) (f 14 (by decide)) (c 4 (by decide) (by decide)), h5.kp (a 21 (by decide) (by decide)) (a 22 (by decide) (by decide)) (a 23 (by decide) (by decide)) (b 24 (by unfold kC; omega)), h6.kp (f 31 (by decide)) (f 32 (by decide)) (c 19 (by decide) (by decide)) (c 20 (by decide) (by decide)) (g.1 18 (Or.inr rfl)), fun q => (h7 q).kp (a 27 (by decide) (by decide)) (a 28 (by decide) (by decide)) (a 29 (by decide) (by decide)) (b 27 (by unfold kC; omega)), fun q => (h8 q).kp (f 36 (by decide)) (fun q hq => c q (by omega) (by omega)) (g.2 41 (by decide))⟩
theorem rf_ne {I : sa_I} {j q : Nat} (hq : q ≠ 1) : rf I j q = I q := sa_uI_ne hq
theorem rf_eq {I I' : sa_I} (m : ∀ t, I 1 t = I' 1 t) (j : Nat) : ∀ t, rf I j 1 t = rf I' j 1 t := by
  intro t
  unfold rf
  by_cases c : t = j
  · subst c; rw [sa_uI_at, sa_uI_at, m t]
  · rw [sa_uI_off c, sa_uI_off c]; exact m t
theorem RF.rf (H : RF n h d k l e Di dd T ne ni Ev Rv I J I' J') (j : Nat) : RF n h d k l e Di dd T ne ni Ev Rv (rf I j) J (rf I' j) J' := H.fr (fun _ a _ => rf_ne a) (fun _ _ => rfl) (fun _ _ b => rf_ne b) (fun t _ => by rw [rf_ne (by decide)]) ⟨fun _ _ => rfl, fun _ _ => rfl⟩ (rf_eq H.1 j)
theorem RF.sc (H : RF n h d k l e Di dd T ne ni Ev Rv I J I' J') (a : SCI I I1) (b : SC J J1) (c : SRI I' I2) (g : SR J' J2) : RF n h d k l e Di dd T ne ni Ev Rv I1 J1 I2 J2 := H.fr (fun q _ y => a q y) b (fun q x _ => c.1 q x) c.2 g (fun t => by rw [a 1 (by decide), c.1 1 (by decide)]; exact H.1 t)
theorem RF.pr (H : RF n h d k l e Di dd T ne ni Ev Rv I J I' J') (f : spF I I1 J J1) (p : PCc n T I1 J1) (g : knW I' I2 J' J2) (q : PCr n T I2 J2) : RF n h d k l e Di dd T ne ni Ev Rv I1 J1 I2 J2 := by
  obtain ⟨h0, ⟨z0, z2⟩, h1, h2, h3, h4, h5, h6, h7, h8⟩ := H
  have fi : ∀ q, q ≠ 14 → q ≠ 21 → q ≠ 22 → q ≠ 23 → I1 q = I q := f.1
  have fj : ∀ q, q = 2 ∨ q = 3 ∨ q = 4 ∨ q = 6 ∨ q = 7 ∨ q = 8 ∨ q = 27 → J1 q = J q := fun q hq => f.2.2.1 q (by omega) (by omega) (by omega) (by omega) (by omega) (by omega) (by omega) (by omega) (by omega) (by omega) (by omega)
  have gj : ∀ q, q < 12 → J2 q = J' q := fun q hq => g.2.2 q (by omega) (by omega) (by omega) (by omega) (by omega) (by omega) (by omega)
  refine ⟨fun t => by rw [fi 1 (by decide) (by decide) (by decide) (by decide), g.1 1 (by decide) (by decide) (by decide)]; exact h0 t, ⟨by rw [f.2.2.2 0 (by decide)]; exact z0, by rw [f.2.2.2 2 (by decide)]; exact z2⟩, h1.kp (fi 4 (by decide) (by decide) (by decide) (by decide)) (fun q hq => fj q (by omega)), h2.kp (fun t ht => g.2.1 t (by omega) (by omega) (by omega)) (fun t _ => by rw [gj 0 (by decide)]) (gj 2 (by decide)), h3.kp (by rw [fi 0 (by decide) (by decide) (by decide) (by decide)]) (fj 2 (by decide)) (g.2.1 13 (by decide) (by decide) (by decide)) (g.1 3 (by decide) (by decide) (by decide)), h4.kp (by rw [fi 0 (by decide) (by decide) (by decide) (by decide)]) (fj 3 (by decide)) (g.2.1 14 (by decide) (by decide) (by decide)) (g.1 4 (by decide) (by decide) (by decide)), p, q, fun q => (h7 q).kp (fi 27 (by decide) (by decide) (by decide) (by decide)) (fi 28 (by decide) (by decide) (by decide) (by decide)) (fi 29 (by decide) (by decide) (by decide) (by decide)) (fj 27 (by decide)), fun q => (h8 q).kp (g.2.1 36 (by decide) (by decide) (by decide)) (fun q hq => g.1 q (by omega) (by omega) (by omega)) (by rw [gj 0 (by decide)])⟩
theorem RF.fo (H : RF n h d k l e Di dd T ne ni Ev Rv I J I' J') (f : fxC I I1 J J1) (p : fcC dd I1 J1) (g : fxR I' I2 J' J2) (q : fcR dd I2 J2) : RF n h d k l e Di dd T ne ni Ev Rv I1 J1 I2 J2 := by
  obtain ⟨h0, ⟨z0, z2⟩, h1, h2, h3, h4, h5, h6, h7, h8⟩ := H
  have fi : ∀ q, q < 14 ∨ q = 21 ∨ q = 22 ∨ q = 23 → I1 q = I q := fun q hq => f.1 q (by omega) (by omega) (by omega) (by omega)
  have fj : ∀ q, kC q → q ≠ 27 → J1 q = J q := f.2
  have gi : ∀ q, q = 1 ∨ q = 3 ∨ q = 4 ∨ q = 19 ∨ q = 20 → I2 q = I' q := fun q hq => g.1 q (by omega) (by omega) (by omega) (by omega) (by omega)
  refine ⟨fun t => by rw [fi 1 (by decide), gi 1 (by decide)]; exact h0 t, ⟨by rw [fj 26 (by unfold kC; omega) (by decide)]; exact z0, by rw [fj 26 (by unfold kC; omega) (by decide)]; exact z2⟩, h1.kp (fi 4 (by decide)) (fun q hq => fj q (by unfold kC; omega) (by omega)), h2.kp (fun t ht => g.2.1 t (by omega) (by omega)) (fun t ht => g.2.2.2 t (by omega)) (g.2.2.1 2 (Or.inl rfl)), h3.kp (by rw [fi 0 (by decide)]) (fj 2 (by unfold kC; omega) (by decide)) (g.2.1 13 (by decide) (by decide)) (gi 3 (by decide)), h4.kp (by rw [fi 0 (by decide)]) (fj 3 (by unfold kC; omega) (by decide)) (g.2.1 14 (by decide) (by decide)) (gi 4 (by decide)), h5.kp (fi 21 (by decide)) (fi 22 (by decide)) (fi 23 (by decide)) (fj 24 (by unfold kC; omega) (by decide)), h6.kp (g.2.1 31 (by decide) (by decide)) (g.2.1 32 (by decide) (by decide)) (gi 19 (by decide)) (gi 20 (by decide)) (g.2.2.1 18 (Or.inr rfl)), fun _ => p, fun _ => q⟩
theorem RF.el {Ev' : Nat → Int} (H : RF n h d k l e Di dd T ne ni Ev Rv I J I' J') (x : ElS n (ne + 1) Ev' I1 J1 I2) (a : ∀ q, q ≠ 0 → I1 q = I q) (a0 : ∀ t, t ≠ 8 → I1 0 t = I 0 t) (b : ∀ q, kC q → q ≠ 2 → J1 q = J q) (c : ∀ q, q ≠ 0 → q ≠ 3 → I2 q = I' q) (f : ∀ t, t ≠ 13 → I2 0 t = I' 0 t) (g : SR J' J2) : RF n h d k l e Di dd T (ne + 1) ni Ev' Rv I1 J1 I2 J2 := by
  obtain ⟨h0, ⟨z0, z2⟩, h1, h2, h3, h4, h5, h6, h7, h8⟩ := H
  have bj : ∀ q, q = 3 ∨ q = 4 ∨ q = 6 ∨ q = 7 ∨ q = 8 ∨ q = 24 ∨ q = 26 ∨ q = 27 → J1 q = J q := fun q hq => b q (by unfold kC; omega) (by omega)
  exact ⟨fun t => by rw [a 1 (by decide), c 1 (by decide) (by decide)]; exact h0 t, ⟨by rw [bj 26 (by decide)]; exact z0, by rw [bj 26 (by decide)]; exact z2⟩, h1.kp (a 4 (by decide)) (fun q hq => bj q (by omega)), h2.kp (fun t ht => f t (by omega)) (fun t ht => g.2 t (by omega)) (g.1 2 (Or.inl rfl)), x, h4.kp (a0 9 (by decide)) (bj 3 (by decide)) (f 14 (by decide)) (c 4 (by decide) (by decide)), h5.kp (a 21 (by decide)) (a 22 (by decide)) (a 23 (by decide)) (bj 24 (by decide)), h6.kp (f 31 (by decide)) (f 32 (by decide)) (c 19 (by decide) (by decide)) (c 20 (by decide) (by decide)) (g.1 18 (Or.inr rfl)), fun q => (h7 q).kp (a 27 (by decide)) (a 28 (by decide)) (a 29 (by decide)) (bj 27 (by decide)), fun q => (h8 q).kp (f 36 (by decide)) (fun q hq => c q (by omega) (by omega)) (g.2 41 (by decide))⟩
theorem RF.id {Rv' : Nat → Int} (H : RF n h d k l e Di dd T ne ni Ev Rv I J I' J') (x : IdS n (ni + 1) T Rv' I1 J1 I2) (a : ∀ q, q ≠ 0 → q ≠ 14 → I1 q = I q) (a0 : ∀ t, t ≠ 9 → I1 0 t = I 0 t) (b : ∀ q, kC q → q ≠ 3 → J1 q = J q) (c : ∀ q, q ≠ 0 → q ≠ 4 → I2 q = I' q) (f : ∀ t, t ≠ 14 → t ≠ 27 → I2 0 t = I' 0 t) (g : SR J' J2) : RF n h d k l e Di dd T ne (ni + 1) Ev Rv' I1 J1 I2 J2 := by
  obtain ⟨h0, ⟨z0, z2⟩, h1, h2, h3, h4, h5, h6, h7, h8⟩ := H
  have bj : ∀ q, q = 2 ∨ q = 4 ∨ q = 6 ∨ q = 7 ∨ q = 8 ∨ q = 24 ∨ q = 26 ∨ q = 27 → J1 q = J q := fun q hq => b q (by unfold kC; omega) (by omega)
  exact ⟨fun t => by rw [a 1 (by decide) (by decide), c 1 (by decide) (by decide)]; exact h0 t, ⟨by rw [bj 26 (by decide)]; exact z0, by rw [bj 26 (by decide)]; exact z2⟩, h1.kp (a 4 (by decide) (by decide)) (fun q hq => bj q (by omega)), h2.kp (fun t ht => f t (by omega) (by omega)) (fun t ht => g.2 t (by omega)) (g.1 2 (Or.inl rfl)), h3.kp (a0 8 (by decide)) (bj 2 (by decide)) (f 13 (by decide) (by decide)) (c 3 (by decide) (by decide)), x, h5.kp (a 21 (by decide) (by decide)) (a 22 (by decide) (by decide)) (a 23 (by decide) (by decide)) (bj 24 (by decide)), h6.kp (f 31 (by decide) (by decide)) (f 32 (by decide) (by decide)) (c 19 (by decide) (by decide)) (c 20 (by decide) (by decide)) (g.1 18 (Or.inr rfl)), fun q => (h7 q).kp (a 27 (by decide) (by decide)) (a 28 (by decide) (by decide)) (a 29 (by decide) (by decide)) (bj 27 (by decide)), fun q => (h8 q).kp (f 36 (by decide) (by decide)) (fun q hq => c q (by omega) (by omega)) (g.2 41 (by decide))⟩
theorem RF.mk (S : StF n h d k l e Di dd T) (H : RF n h d k l e Di dd T ne ni Ev Rv I J I' J') : Rel0 I J I' J' := Or.inr ⟨n, h, d, k, l, e, Di, dd, T, S, ne, ni, Ev, Rv, H⟩
theorem RF.nel (S : StF n h d k l e Di dd T) (H : RF n h d k l e Di dd T ne ni Ev Rv I J I' J') : Nel n ne Rel0 I J I' J' := ⟨fun _ _ _ _ a b c g => (H.sc a b c g).mk S, fun j _ _ _ _ a b c g => ((H.sc a b c g).rf j).mk S, fun _ _ _ _ _ x a a0 b c f g => (H.el x a a0 b c f g).mk S⟩
theorem RF.nid (S : StF n h d k l e Di dd T) (H : RF n h d k l e Di dd T ne ni Ev Rv I J I' J') : Nid n ni T Rel0 I J I' J' := ⟨fun _ _ _ _ a b c g => (H.sc a b c g).mk S, fun j _ _ _ _ a b c g => ((H.sc a b c g).rf j).mk S, fun _ _ _ _ _ x a a0 b c f g => (H.id x a a0 b c f g).mk S⟩
theorem RF.npr (S : StF n h d k l e Di dd T) (H : RF n h d k l e Di dd T ne ni Ev Rv I J I' J') : Npr n T Rel0 I J I' J' := fun _ _ _ _ f p g q => ⟨(H.pr f p g q).mk S, fun j => ((H.pr f p g q).rf j).mk S⟩
theorem RF.npi (S : StF n h d k l e Di dd T) (H : RF n h d k l e Di dd T ne ni Ev Rv I J I' J') : Npi n ni T Rel0 I J I' J' := fun _ _ _ _ f p g q => (H.pr f p g q).nid S
theorem RF.nfo (S : StF n h d k l e Di dd T) (H : RF n h d k l e Di dd T ne ni Ev Rv I J I' J') : Nfo dd Rel0 I J I' J' := fun _ _ _ _ f p g q => ⟨(H.fo f p g q).mk S, fun j => ((H.fo f p g q).rf j).mk S⟩
theorem RF.prC (H : RF n h d k l e Di dd T ne ni Ev Rv I J I' J') : prC n T I J := ⟨H.2.2.1.1, H.2.2.1.2.2.2.2.2.2, H.2.1.1, H.2.1.2, H.2.2.2.2.2.2.1⟩
theorem RF.prD (H : RF n h d k l e Di dd T ne ni Ev Rv I J I' J') : prD n T I' J' := ⟨H.2.2.2.1.1, H.2.2.2.1.2.2.2.2.2.2.2.2, H.2.2.2.2.2.2.2.1⟩
end RA
