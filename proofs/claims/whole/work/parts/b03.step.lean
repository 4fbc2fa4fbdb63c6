/-! every call keeps what holds between the two memories -/
section ST
variable {l0 : Launch} {D0 : va_G} {aI aL : ClassId} {ad ad' : Nat → Nat} {I I' : sa_I} {J J' : sa_J}
theorem Rel1.rf (H : Rel1 I J I' J') (j : Nat) : Rel1 (rf I j) J (rf I' j) J' := by
  obtain ⟨a, z, b, c, d, e⟩ := H
  exact ⟨rf_eq a j, z, by rw [rf_ne (by decide)]; exact b, by rw [rf_ne (by decide)]; exact c, by rw [rf_ne (by decide), rf_ne (by decide)]; exact d, by rw [rf_ne (by decide), rf_ne (by decide)]; exact e⟩
theorem Rel0.rf (H : Rel0 I J I' J') (j : Nat) : Rel0 (rf I j) J (rf I' j) J' := by
  rcases H with H | ⟨n, h, d, k, l, e, Di, dd, T, S, ne, ni, Ev, Rv, H⟩
  · exact Or.inl (H.rf j)
  · exact (H.rf j).mk S
theorem Rel0.al (H : Rel0 I J I' J') : (∀ t, I 1 t = I' 1 t) ∧ (J 26 0 = 0 ∧ J 26 2 = 0) ∧ I 0 8 = I' 0 13 ∧ I 0 9 = I' 0 14 := by
  rcases H with H | ⟨n, h, d, k, l, e, Di, dd, T, S, ne, ni, Ev, Rv, H⟩
  · exact ⟨H.1, H.2.1, H.2.2.2.2.1, H.2.2.2.2.2⟩
  · obtain ⟨a, z, _, _, hE, hI, _⟩ := H
    exact ⟨a, z, by rw [hE.2.1, hE.2.2.1], by rw [hI.2.1, hI.2.2.1]⟩
theorem rel_open (H : Rel0 I J I' J') (a1 a2 a3 : Int32) : la_Step l0 D0 aI aL ad ad' Rel0 0 a1 a2 a3 I J I' J' ∧ la_Step l0 D0 aI aL ad ad' Rel0 1 a1 a2 a3 I J I' J' := by
  obtain ⟨a, ha, rfl⟩ := iI_of a1
  obtain ⟨b, hb, rfl⟩ := iI_of a2
  obtain ⟨c, hc, rfl⟩ := iI_of a3
  obtain ⟨hA, z, _, _⟩ := H.al
  exact ⟨st_square ha hb (H.rf 4) (H.rf 6) (H.rf 3) (fun J1 I2 J2 h d x1 x2 x3 x4 hp hf hJ hr => op_square hA z x1 x2 x3 x4 hp hf hJ hr), st_cubeW ha hb hc (H.rf 4) (H.rf 6) (H.rf 3) (fun J1 I2 J2 h d k l e x1 x2 x3 x4 x5 x6 hp hf hJ hr => op_cube hA z x1 x2 x3 x4 x5 x6 hp hf hJ hr)⟩
theorem rel_field {n : Nat} {h d k l e Di dd : Int} {T : Nat → Int} {ne ni : Nat} {Ev Rv : Nat → Int} (S : StF n h d k l e Di dd T) (H : RF n h d k l e Di dd T ne ni Ev Rv I J I' J') (a1 a2 a3 : Int32) : ∀ m, 2 ≤ m → m ≤ 25 → la_Step l0 D0 aI aL ad ad' Rel0 m a1 a2 a3 I J I' J' := by
  obtain ⟨F, mx, nl, hU, hF, hO⟩ := id S
  have rr := F.rg
  have hn := F.1
  have R := H.mk S
  obtain ⟨hA, z, hc, hr, hE, hI, hP, hQ, f1, f2⟩ := id H
  have hI4 := hc.1
  have hT := hc.2.2.2.2.2.2
  have hI4' := hr.1
  have hT' := hr.2.2.2.2.2.2.2.2
  have h42 : n = 2 → J 4 2 = lI dd := fun _ => hc.2.2.1
  have h10 : n = 2 → J' 0 10 = lI dd := fun _ => hr.2.2.2.2.2.2.1
  have nN : ∀ J1 J2, (∀ q, q ≠ 9 → q ≠ 10 → J1 q = J q) → (∀ q, q ≠ 9 → q ≠ 10 → J2 q = J' q) → RF n h d k l e Di dd T ne ni Ev Rv I J1 I' J2 := fun J1 J2 x y => H.sc (fun _ _ => rfl) (fun q hq => x q (by unfold kC at hq; omega) (by unfold kC at hq; omega)) ⟨fun _ _ => rfl, fun _ _ => rfl⟩ ⟨fun q hq => y q (by omega) (by omega), fun t _ => by rw [y 0 (by decide) (by decide)]⟩
  intro m m1 m2
  match m, m1, m2 with
  | 2, _, _ => exact st_field F hc hr R (R.rf 2)
  | 3, _, _ => exact st_disc F hc hr R (R.rf 2)
  | 4, _, _ => exact st_basis F hc hr R (R.rf 1)
  | 5, _, _ => exact st_table F hc hr R (R.rf 1)
  | 6, _, _ => exact st_element hn hI4 hI4' hE (R.rf 1) (fun Jw x => ((nN Jw J' (fun q a _ => x q a) (fun _ _ _ => rfl)).rf 4).mk S) (fun Jw x => ((nN Jw J' (fun q a _ => x q a) (fun _ _ _ => rfl)).rf 6).mk S) (fun Ev' I1 J1 I2 x a a0 b c f => (H.el x a a0 (fun q hq y => b q y (by unfold kC at hq; omega)) c f ⟨fun _ _ => rfl, fun _ _ => rfl⟩).mk S)
  | 7, _, _ => exact st_make F hc hr hE (H.nel S)
  | 8, _, _ => exact st_coordinate hn hI4 hI4' hE R (R.rf 1)
  | 9, _, _ => exact st_norm F hc hr hE (fun J1 J2 x y => (nN J1 J2 (fun q _ b => x q b) y).mk S) (R.rf 1) (fun J2 y => ((nN J J2 (fun _ _ _ => rfl) y).rf 2).mk S)
  | 10, _, _ => exact st_unit rr hU hI4 hT hI4' hT' hE (fun J1 J2 x y => (H.sc (fun _ _ => rfl) x ⟨fun _ _ => rfl, fun _ _ => rfl⟩ y).mk S) (R.rf 1)
  | 11, _, _ => exact st_ideal F hc hr hE hI (H.nid S)
  | 12, _, _ => exact st_join F hc hr hI (H.nid S)
  | 13, _, _ => exact st_row F hc hr hI (H.nid S)
  | 14, _, _ => exact st_idealOf rr mx.1 H.prC H.prD hI (H.npi S)
  | 15, _, _ => exact st_in F hc hr hE hI (H.nid S)
  | 16, _, _ => exact st_divides F hc hr hI (H.nid S)
  | 17, _, _ => exact st_primes rr mx.1 H.prC H.prD (H.npr S)
  | 18, _, _ => exact st_prime rr mx.1 H.prC H.prD (H.npr S)
  | 19, _, _ => exact st_take rr mx.1 H.prC H.prD hI (H.npi S)
  | 20, _, _ => exact st_times rr mx nl H.prC H.prD hI (H.npi S)
  | 21, _, _ => exact st_classes hn hF.1 hI4 hI4' h42 h10 f1 f2 (R.rf 2) (fun _ => H.nfo S)
  | 22, _, _ => exact st_form hn hF.1 hI4 hI4' h42 h10 f1 f2 (R.rf 2) (fun _ => H.nfo S)
  | 23, _, _ => exact st_classOf hn hF hI4 hT hI4' hT' h42 h10 f1 f2 hI (R.rf 1) (R.rf 2) (fun _ => H.nfo S)
  | 24, _, _ => exact st_order hn hF hO hI4 hT hI4' hT' h42 h10 f1 f2 hI (R.rf 1) (R.rf 2) (fun _ => H.nfo S)
  | 25, _, _ => exact st_first F hc hr (H.nid S)
  | m + 26, _, m2 => omega
theorem rel_step (H : Rel0 I J I' J') (m : Nat) (hm : m < 32) (a1 a2 a3 : Int32) : la_Step l0 D0 aI aL ad ad' Rel0 m a1 a2 a3 I J I' J' := by
  obtain ⟨hA, z, h8, h9⟩ := H.al
  by_cases c : 2 ≤ m ∧ m ≤ 25
  · rcases H with H | ⟨n, h, d, k, l, e, Di, dd, T, S, ne, ni, Ev, Rv, H⟩
    · exact st_none H.2.2.1 H.2.2.2.1 (Or.inl (H.rf 3)) m c.1 c.2
    · exact rel_field S H a1 a2 a3 m c.1 c.2
  · have cs : m = 0 ∨ m = 1 ∨ m = 26 ∨ m = 27 ∨ m = 28 ∨ m = 29 ∨ m = 30 ∨ m = 31 := by omega
    rcases cs with rfl | rfl | rfl | rfl | rfl | rfl | rfl | rfl
    · exact (rel_open H a1 a2 a3).1
    · exact (rel_open H a1 a2 a3).2
    · exact st_count h8 h9 hA H
    · exact H
    · exact H
    · exact H
    · exact H
    · exact H
end ST
theorem rel_zero : Rel0 la_zI la_zJ la_zI la_zJ := Or.inl ⟨fun _ => rfl, ⟨rfl, rfl⟩, rfl, rfl, rfl, rfl⟩
theorem whole_start {p : Program} {e : Env} {s : State} {m : MethodId} {below : List Frame} {meth : Method} {c : Code} (l : Launch) {b n : Nat} {xs : Nat → Int32} (hn : n ≤ 2048) (C0 : lw_At p s m meth c b n xs) : W p l e room_1 s m #[Value.ref b] below meth c s.heap [] 0 0 (lw_Z below #[Value.ref b] s) (entryFrame m ([Value.ref b] : List Value).toArray 4) :=
  la_start l hn C0 (fun _ => Rel0) rel_zero (fun _ _ _ _ _ _ _ _ _ _ _ hr k hk a1 a2 a3 => rel_step hr k hk a1 a2 a3)
