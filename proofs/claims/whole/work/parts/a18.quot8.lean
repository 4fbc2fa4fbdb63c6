/-- the sum of products of places, the third only for degree 3 -/
def ip (n : Nat) (v u : V3) : Int := v.1 * u.1 + v.2.1 * u.2.1 + (if n = 2 then 0 else v.2.2 * u.2.2)
theorem ip_grp (n : Nat) (v : V3) (m : Int) : Grp (fun u => m ∣ ip n v u) := by
  refine ⟨?_, fun a b ha hb => ?_⟩
  · show m ∣ ip n v (0, 0, 0)
    unfold ip; simp
  · show m ∣ ip n v (vsu a b)
    have e : ip n v (vsu a b) = ip n v a - ip n v b := by
      unfold ip vsu
      by_cases h : n = 2
      · rw [if_pos h, if_pos h, if_pos h]; grind
      · rw [if_neg h, if_neg h, if_neg h]; grind
    rw [e]; exact Int.dvd_sub ha hb
theorem ip_grp' (n : Nat) (u : V3) (m : Int) : Grp (fun v => m ∣ ip n v u) := by
  refine ⟨?_, fun a b ha hb => ?_⟩
  · show m ∣ ip n (0, 0, 0) u
    unfold ip; simp
  · show m ∣ ip n (vsu a b) u
    have e : ip n (vsu a b) u = ip n a u - ip n b u := by
      unfold ip vsu
      by_cases h : n = 2
      · rw [if_pos h, if_pos h, if_pos h]; grind
      · rw [if_neg h, if_neg h, if_neg h]; grind
    rw [e]; exact Int.dvd_sub ha hb
theorem sm_ip {n : Nat} (h0 : n = 2 ∨ n = 3) (v : V3) (m : Int) : In3 (fun u => m ∣ ip n v u) (smR n m) := by
  rcases h0 with rfl | rfl
  · exact ⟨⟨v.1, by show v.1 * m + v.2.1 * 0 + 0 = _; grind⟩, ⟨v.2.1, by show v.1 * 0 + v.2.1 * m + 0 = _; grind⟩, ⟨0, by show v.1 * 0 + v.2.1 * 0 + 0 = _; grind⟩⟩
  · exact ⟨⟨v.1, by show v.1 * m + v.2.1 * 0 + v.2.2 * 0 = _; grind⟩, ⟨v.2.1, by show v.1 * 0 + v.2.1 * m + v.2.2 * 0 = _; grind⟩, ⟨v.2.2, by show v.1 * 0 + v.2.1 * 0 + v.2.2 * m = _; grind⟩⟩
theorem sm_ip' {n : Nat} (h0 : n = 2 ∨ n = 3) (u : V3) (m : Int) : In3 (fun v => m ∣ ip n v u) (smR n m) := by
  rcases h0 with rfl | rfl
  · exact ⟨⟨u.1, by show m * u.1 + 0 * u.2.1 + 0 = _; grind⟩, ⟨u.2.1, by show 0 * u.1 + m * u.2.1 + 0 = _; grind⟩, ⟨0, by show 0 * u.1 + 0 * u.2.1 + 0 = _; grind⟩⟩
  · exact ⟨⟨u.1, by show m * u.1 + 0 * u.2.1 + 0 * u.2.2 = _; grind⟩, ⟨u.2.1, by show 0 * u.1 + m * u.2.1 + 0 * u.2.2 = _; grind⟩, ⟨u.2.2, by show 0 * u.1 + 0 * u.2.1 + m * u.2.2 = _; grind⟩⟩
/-- the tests' numbers of all products with y i -/
def zet (n : Nat) (T X Y : Nat → Int) (m : Int) (i c : Nat) : V3 := (tau X c (muv n T (eV 0) (rowV Y i)) % m, tau X c (muv n T (eV 1) (rowV Y i)) % m, if n = 2 then 0 else tau X c (muv n T (eV 2) (rowV Y i)) % m)
theorem tau_sum (n : Nat) (T X : Nat → Int) (c : Nat) (v y : V3) : tau X c (muv n T v y) = v.1 * tau X c (muv n T (eV 0) y) + v.2.1 * tau X c (muv n T (eV 1) y) + v.2.2 * tau X c (muv n T (eV 2) y) := by
  rw [muv_comm, eV_sum v, muv_add, muv_add, muv_mul, muv_mul, muv_mul, tau_add, tau_add, tau_mul, tau_mul, tau_mul, muv_comm n T y (eV 0), muv_comm n T y (eV 1), muv_comm n T y (eV 2)]
  rw [← eV_sum v]
theorem zet_ip {n : Nat} {T X Y : Nat → Int} (r2 : R2 n X) {m : Int} {i c : Nat} (hc : c < n) (v : V3) : m ∣ ip n v (zet n T X Y m i c) ↔ m ∣ tau X c (muv n T v (rowV Y i)) := by
  have d0 := dvd_mod_sum (N := m) (a := v.1) (x := tau X c (muv n T (eV 0) (rowV Y i)))
  have d1 := dvd_mod_sum (N := m) (a := v.2.1) (x := tau X c (muv n T (eV 1) (rowV Y i)))
  have d2 := dvd_mod_sum (N := m) (a := v.2.2) (x := tau X c (muv n T (eV 2) (rowV Y i)))
  have key : m ∣ (tau X c (muv n T v (rowV Y i)) - ip n v (zet n T X Y m i c)) := by
    rw [tau_sum]
    unfold ip zet
    by_cases h : n = 2
    · have e2 : tau X c (muv n T (eV 2) (rowV Y i)) = 0 := tau_third r2 h hc (rowV Y i) 1
      simp only [if_pos h]
      rw [e2]
      have := Int.dvd_add d0 d1
      have e : ∀ a b c d x : Int, a - b + (c - d) = a + c + x * 0 - (b + d + 0) := by intro a b c d x; omega
      rw [e _ _ _ _ v.2.2] at this; exact this
    · simp only [if_neg h]
      have := Int.dvd_add (Int.dvd_add d0 d1) d2
      have e : ∀ a b c d f g : Int, a - b + (c - d) + (f - g) = a + c + f - (b + d + g) := by intro a b c d f g; omega
      rw [e] at this; exact this
  constructor
  · intro h
    have := Int.dvd_add key h
    rw [Int.sub_add_cancel] at this; exact this
  · intro h
    have := Int.dvd_sub h key
    rw [Int.sub_sub_self] at this; exact this
/-- the dual numbers of a lattice's rows -/
theorem dual_iff {n : Nat} (h0 : n = 2 ∨ n = 3) {m : Int} {R R' : Nat → Int} (tR : Tri R) (r2 : R2 n R) {d : Nat → V3} (hd : ∀ c, c < n → nmR R * (d c).1 = m * tst R c 0 ∧ nmR R * (d c).2.1 = m * tst R c 1 ∧ (n = 3 → nmR R * (d c).2.2 = m * tst R c 2)) (hR' : ∀ H, Grp H → (In3 H R' ↔ (In3 H (smR n m) ∧ ∀ c, c < n → H (d c)))) (v : V3) : Sp R' v ↔ ∀ k, k < n → m ∣ ip n v (rowV R k) := by
  obtain ⟨z1, z2, z5, p0, p4, p8⟩ := tR
  have tR : Tri R := ⟨z1, z2, z5, p0, p4, p8⟩
  have hN : 0 < nmR R := Int.mul_pos (Int.mul_pos p0 p4) p8
  have ipd : ∀ c, c < n → ∀ u, nmR R * ip n (d c) u = m * (tst R c 0 * u.1 + tst R c 1 * u.2.1 + if n = 2 then 0 else tst R c 2 * u.2.2) := by
    intro c hc u
    obtain ⟨a, b, e⟩ := hd c hc
    unfold ip
    rcases h0 with h | h
    · rw [if_pos h, if_pos h]
      have : nmR R * ((d c).1 * u.1 + (d c).2.1 * u.2.1 + 0) = (nmR R * (d c).1) * u.1 + (nmR R * (d c).2.1) * u.2.1 := by grind
      rw [this, a, b]; grind
    · rw [if_neg (by omega), if_neg (by omega)]
      have : nmR R * ((d c).1 * u.1 + (d c).2.1 * u.2.1 + (d c).2.2 * u.2.2) = (nmR R * (d c).1) * u.1 + (nmR R * (d c).2.1) * u.2.1 + (nmR R * (d c).2.2) * u.2.2 := by grind
      rw [this, a, b, e h]; grind
  have ipt : ∀ c, c < n → ∀ u, nmR R * ip n (d c) u = m * tau R c u := by
    intro c hc u
    rw [ipd c hc u]
    unfold tau
    by_cases h : n = 2
    · rw [if_pos h, tst_third r2 h hc]; grind
    · rw [if_neg h]
  have gR' := Sp_grp R'
  constructor
  · intro s k hk
    refine In3.sp (ip_grp' n (rowV R k) m) ((hR' _ (ip_grp' n (rowV R k) m)).mpr ⟨sm_ip' h0 _ _, fun c hc => ?_⟩) s
    obtain ⟨t, et⟩ := (tau_iff tR (rowV R k)).mp ((in3_rows tR _).mp (Sp_in R) k (by omega)) c (by omega)
    refine ⟨t, mul_cancel hN ?_⟩
    rw [ipt c hc, et]; grind
  · intro h
    have inR' := (hR' _ gR').mp (Sp_in R')
    rcases h0 with hn | hn
    · subst hn
      obtain ⟨r6, r7, r8⟩ := r2 rfl
      obtain ⟨t0, e0⟩ := h 0 (by decide)
      obtain ⟨t1, e1⟩ := h 1 (by decide)
      have q0 : v.1 * R 0 + v.2.1 * R 1 + 0 = m * t0 := e0
      have q1 : v.1 * R 3 + v.2.1 * R 4 + 0 = m * t1 := e1
      rw [z1] at q0
      obtain ⟨a0, b0, _⟩ := hd 0 (by decide)
      obtain ⟨a1, b1, _⟩ := hd 1 (by decide)
      have A0 : nmR R * (d 0).1 = m * (R 4 * R 8) := a0
      have B0 : nmR R * (d 0).2.1 = m * (-R 3 * R 8) := b0
      have A1 : nmR R * (d 1).1 = m * 0 := a1
      have B1 : nmR R * (d 1).2.1 = m * (R 0 * R 8) := b1
      have c1 : Sp R' (0, 0, 1) := inR'.1.2.2
      have v0 : v.1 = t0 * (d 0).1 + t1 * (d 1).1 := mul_cancel hN (by
        have : nmR R * (t0 * (d 0).1 + t1 * (d 1).1) = t0 * (nmR R * (d 0).1) + t1 * (nmR R * (d 1).1) := by grind
        rw [this, A0, A1]
        have q0' : m * t0 * (R 4 * R 8) = (v.1 * R 0 + v.2.1 * 0 + 0) * (R 4 * R 8) := by rw [q0]
        unfold nmR; grind)
      have v1 : v.2.1 = t0 * (d 0).2.1 + t1 * (d 1).2.1 := mul_cancel hN (by
        have : nmR R * (t0 * (d 0).2.1 + t1 * (d 1).2.1) = t0 * (nmR R * (d 0).2.1) + t1 * (nmR R * (d 1).2.1) := by grind
        rw [this, B0, B1]
        have q0' : m * t0 * (R 3 * R 8) = (v.1 * R 0 + v.2.1 * 0 + 0) * (R 3 * R 8) := by rw [q0]
        have q1' : m * t1 * (R 0 * R 8) = (v.1 * R 3 + v.2.1 * R 4 + 0) * (R 0 * R 8) := by rw [q1]
        unfold nmR; grind)
      exact gR'.co t0 t1 (v.2.2 - t0 * (d 0).2.2 - t1 * (d 1).2.2) gR'.1 (inR'.2 0 (by decide)) (inR'.2 1 (by decide)) c1 (by rw [v0]; dsimp only; omega) (by rw [v1]; dsimp only; omega) (by dsimp only; omega)
    · subst hn
      obtain ⟨t0, e0⟩ := h 0 (by decide)
      obtain ⟨t1, e1⟩ := h 1 (by decide)
      obtain ⟨t2, e2⟩ := h 2 (by decide)
      have q0 : v.1 * R 0 + v.2.1 * R 1 + v.2.2 * R 2 = m * t0 := e0
      have q1 : v.1 * R 3 + v.2.1 * R 4 + v.2.2 * R 5 = m * t1 := e1
      have q2 : v.1 * R 6 + v.2.1 * R 7 + v.2.2 * R 8 = m * t2 := e2
      rw [z1, z2] at q0
      rw [z5] at q1
      obtain ⟨a0, b0, c0⟩ := hd 0 (by decide)
      obtain ⟨a1, b1, c1⟩ := hd 1 (by decide)
      obtain ⟨a2, b2, c2⟩ := hd 2 (by decide)
      have A0 : nmR R * (d 0).1 = m * (R 4 * R 8) := a0
      have B0 : nmR R * (d 0).2.1 = m * (-R 3 * R 8) := b0
      have C0 : nmR R * (d 0).2.2 = m * (R 3 * R 7 - R 6 * R 4) := c0 rfl
      have A1 : nmR R * (d 1).1 = m * 0 := a1
      have B1 : nmR R * (d 1).2.1 = m * (R 0 * R 8) := b1
      have C1 : nmR R * (d 1).2.2 = m * (-R 0 * R 7) := c1 rfl
      have A2 : nmR R * (d 2).1 = m * 0 := a2
      have B2 : nmR R * (d 2).2.1 = m * 0 := b2
      have C2 : nmR R * (d 2).2.2 = m * (R 0 * R 4) := c2 rfl
      have sp : ∀ x y z : Int, nmR R * (t0 * x + t1 * y + t2 * z) = t0 * (nmR R * x) + t1 * (nmR R * y) + t2 * (nmR R * z) := by intro x y z; grind
      have v0 : v.1 = t0 * (d 0).1 + t1 * (d 1).1 + t2 * (d 2).1 := mul_cancel hN (by
        rw [sp, A0, A1, A2]
        have q0' : m * t0 * (R 4 * R 8) = (v.1 * R 0 + v.2.1 * 0 + v.2.2 * 0) * (R 4 * R 8) := by rw [q0]
        unfold nmR; grind)
      have v1 : v.2.1 = t0 * (d 0).2.1 + t1 * (d 1).2.1 + t2 * (d 2).2.1 := mul_cancel hN (by
        rw [sp, B0, B1, B2]
        have q0' : m * t0 * (R 3 * R 8) = (v.1 * R 0 + v.2.1 * 0 + v.2.2 * 0) * (R 3 * R 8) := by rw [q0]
        have q1' : m * t1 * (R 0 * R 8) = (v.1 * R 3 + v.2.1 * R 4 + v.2.2 * 0) * (R 0 * R 8) := by rw [q1]
        unfold nmR; grind)
      have v2 : v.2.2 = t0 * (d 0).2.2 + t1 * (d 1).2.2 + t2 * (d 2).2.2 := mul_cancel hN (by
        rw [sp, C0, C1, C2]
        have q0' : m * t0 * (R 3 * R 7 - R 6 * R 4) = (v.1 * R 0 + v.2.1 * 0 + v.2.2 * 0) * (R 3 * R 7 - R 6 * R 4) := by rw [q0]
        have q1' : m * t1 * (R 0 * R 7) = (v.1 * R 3 + v.2.1 * R 4 + v.2.2 * 0) * (R 0 * R 7) := by rw [q1]
        have q2' : m * t2 * (R 0 * R 4) = (v.1 * R 6 + v.2.1 * R 7 + v.2.2 * R 8) * (R 0 * R 4) := by rw [q2]
        unfold nmR; grind)
      exact gR'.co t0 t1 t2 gR'.1 (inR'.2 0 (by decide)) (inR'.2 1 (by decide)) (inR'.2 2 (by decide)) (by rw [v0]; dsimp only; omega) (by rw [v1]; dsimp only; omega) (by rw [v2]; dsimp only; omega)
section RQ
variable {l : Launch} {D : va_G} {aI aL : ClassId} {ad : Nat → Nat} {P : sa_P}
def oT (J J1 : sa_J) : Prop := ∀ q, q ≠ 12 → q ≠ 13 → J1 q = J q
theorem oT.tr {J J1 J2 : sa_J} (h : oT J J1) (g : oT J1 J2) : oT J J2 := fun q a b => (g q a b).trans (h q a b)
theorem oT.rfl' {J : sa_J} : oT J J := fun _ _ _ => rfl
theorem rq_in {n : Nat} {T X Y : Nat → Int} (rr : Rg n T) (hX : IdR n T X) (okY : okR n Y) {u : Nat} (hu : u < n) : ∀ (d c0 many : Nat) (g : Nat → V3) (I : sa_I) (J : sa_J), c0 + d = n → many + d ≤ 20 → I 0 1 = nI n → (∀ i j c, i < n → j < n → c < 3 → J 2 (9 * i + 3 * j + c) = lI (T (9 * i + 3 * j + c))) → (∀ t, t < 3 * n → J 16 t = lI (Y t)) → (∀ j c, j < n → c < n → J 17 (3 * j + c) = lI (tst X c j)) → GV many g I J → (∀ many' g' I' J', many' = many + d → SRI I I' → oT J J' → GV many' g' I' J' → (∀ H : V3 → Prop, (∀ i, i < many' → H (g' i)) ↔ ((∀ i, i < many → H (g i)) ∧ ∀ c, c0 ≤ c → c < n → H (zet n T X Y (nmR X) u c))) → Sat (ER l D aI aL ad) M_X7_quotient P 133 [(0, .ref (ad 0)), (1, .long (lI (nmR X))), (3, .int (nI u))] [] I' J') → Sat (ER l D aI aL ad) M_X7_quotient P 38 [(0, .ref (ad 0)), (1, .long (lI (nmR X))), (3, .int (nI u)), (4, .int (nI c0))] [] I J := by
  intro d
  have h0 := rr.n
  have hN0 : 0 < nmR X := Int.mul_pos (Int.mul_pos hX.1.1.2.2.2.1 hX.1.1.2.2.2.2.1) hX.1.1.2.2.2.2.2
  have hN := hX.2.2.2
  induction d with
  | zero =>
    intro c0 many g I J hd hm hI hT hY h17 hG kk
    refine bX7_quotient_38 (fun _ => kk many g I J rfl SRI.rfl' oT.rfl' hG (fun H => ⟨fun h => ⟨h, fun j h1 h2 => by omega⟩, fun h => h.1⟩)) (fun c => absurd ?_ c)
    rw [hI, nJ_le (by omega) (by omega)]; omega
  | succ d ih =>
    intro c0 many g I J hd hm hI hT hY h17 hG kk
    refine bX7_quotient_38 (fun c => absurd c (by rw [hI, nJ_le (by omega) (by omega)]; omega)) (fun _ => ?_)
    refine bX7_quotient_47 (v48 := nI 0) rfl ?_
    refine bX7_quotient_50 (fun c => absurd c (by decide)) (fun _ => ?_)
    refine bX7_quotient_56 (j60 := 0) (v63 := lI 0) (v64 := nI 1) rfl (by decide) rfl rfl ?_
    refine bX7_quotient_50 (fun c => absurd c (by decide)) (fun _ => ?_)
    refine bX7_quotient_56 (j60 := 1) (v63 := lI 0) (v64 := nI 2) rfl (by decide) rfl rfl ?_
    refine bX7_quotient_50 (fun c => absurd c (by decide)) (fun _ => ?_)
    refine bX7_quotient_56 (j60 := 2) (v63 := lI 0) (v64 := nI 3) rfl (by decide) rfl rfl ?_
    refine bX7_quotient_50 (fun _ => ?_) (fun c => absurd (by decide) c)
    refine bX7_quotient_70 (v71 := nI 0) rfl ?_
    have mb : ∀ s : Int, rg (s % nmR X) := fun s => by have := mod_bd (a := s) hN0; exact ⟨by omega, by omega⟩
    -- one place asked
    have ask : ∀ (a : Nat) (Jc : sa_J), a < n → oT J Jc → Sat (ER l D aI aL ad) M_X7_quotient P 73 [(0, .ref (ad 0)), (1, .long (lI (nmR X))), (3, .int (nI u)), (4, .int (nI c0)), (5, .int (nI (a + 1)))] [] I (sa_uJ Jc 12 a (lI (tau X c0 (muv n T (eV a) (rowV Y u)) % nmR X))) → Sat (ER l D aI aL ad) M_X7_quotient P 73 [(0, .ref (ad 0)), (1, .long (lI (nmR X))), (3, .int (nI u)), (4, .int (nI c0)), (5, .int (nI a))] [] I Jc := by
      intro a Jc ha oc k'
      refine bX7_quotient_73 (fun c => absurd c (by rw [hI, nJ_le (by omega) (by omega)]; omega)) (fun _ => ?_)
      refine bX7_quotient_82 ?_
      refine v_X7_278 dX7_quotient_95 rfl ⟨rfl, rfl, Nat.le_of_ble_eq_true rfl, Nat.le_of_ble_eq_true rfl⟩ (c_asked rr hI hu ha (c := c0) (by omega) hN0 hN hX.2.1 (okY.row (i := u) (by omega)) (fun c j => bd_rg (tst_bd hX.1 hN c j) (by decide)) (fun i j c h1 h2 h3 => by rw [oc 2 (by decide) (by decide)]; exact hT i j c h1 h2 h3) (fun t ht => by rw [oc 16 (by decide) (by decide)]; exact hY t ht) (fun j c h1 h2 => by rw [oc 17 (by decide) (by decide)]; exact h17 j c h1 h2)) rfl rfl (Nat.le_of_ble_eq_true rfl) (fun r I1 J1 hp => ?_)
      obtain ⟨rfl, e2, e3⟩ := hp
      obtain rfl := e2.symm
      obtain rfl := e3.symm
      exact bX7_quotient_98 (s1 := a) (v99 := nI (a + 1)) (by omega) (nI_addE a 1) k'
    have fin : ∀ Jc, oT J Jc → Jc 12 0 = lI (zet n T X Y (nmR X) u c0).1 → Jc 12 1 = lI (zet n T X Y (nmR X) u c0).2.1 → Jc 12 2 = lI (zet n T X Y (nmR X) u c0).2.2 → (∀ q, q ≠ 12 → Jc q = J q) → Sat (ER l D aI aL ad) M_X7_quotient P 105 [(0, .ref (ad 0)), (1, .long (lI (nmR X))), (3, .int (nI u)), (4, .int (nI c0))] [] I Jc := by
      intro Jc oc w0 w1 w2 f12
      refine bX7_quotient_105 ?_
      have hG1 : GV many g I Jc := ⟨hG.1, hG.2.1, fun i hi c hc => by rw [f12 13 (by decide)]; exact hG.2.2 i hi c hc⟩
      refine v_X7_255 dX7_quotient_124 rfl ⟨rfl, rfl, Nat.le_of_ble_eq_true rfl, Nat.le_of_ble_eq_true rfl⟩ (c_gives (v := zet n T X Y (nmR X) u c0) hG1 (by omega) w0 w1 w2 (fun c hc => ?_)) rfl rfl (Nat.le_of_ble_eq_true rfl) (fun r I2 J2 hp => ?_)
      · rcases below3 hc with rfl | rfl | rfl
        · exact mb _
        · exact mb _
        · show rg (if n = 2 then 0 else _)
          by_cases h : n = 2
          · rw [if_pos h]; exact ⟨by decide, by decide⟩
          · rw [if_neg h]; exact mb _
      obtain ⟨rfl, s2, f2, G2⟩ := hp
      refine bX7_quotient_127 (v127 := nI (c0 + 1)) (nI_addE c0 1) ?_
      have o2 : oT J J2 := fun q h12 h13 => (f2 q h13).trans (f12 q h12)
      refine ih (c0 + 1) (many + 1) _ I2 J2 (by omega) (by omega) (by rw [s2.2 1 (by decide)]; exact hI) (fun i j c h1 h2 h3 => by rw [o2 2 (by decide) (by decide)]; exact hT i j c h1 h2 h3) (fun t ht => by rw [o2 16 (by decide) (by decide)]; exact hY t ht) (fun j c h1 h2 => by rw [o2 17 (by decide) (by decide)]; exact h17 j c h1 h2) G2 (fun many' g' I' J' em s' f' G' H' => kk many' g' I' J' (by omega) (s2.tr s') (o2.tr f') G' (fun H => ?_))
      rw [H' H, updG_all]
      constructor
      · rintro ⟨⟨a, b⟩, c⟩
        refine ⟨a, fun i h1 h2 => ?_⟩
        by_cases h : i = c0
        · subst h; exact b
        · exact c i (by omega) h2
      · rintro ⟨a, b⟩
        exact ⟨⟨a, b c0 (Nat.le_refl _) (by omega)⟩, fun i h1 h2 => b i (by omega) h2⟩
    refine ask 0 _ (by omega) (fun q h12 _ => by simp only [sa_uJ_ne h12]) ?_
    refine ask 1 _ (by omega) (fun q h12 _ => by simp only [sa_uJ_ne h12]) ?_
    rcases h0 with h | h
    · refine bX7_quotient_73 (fun _ => fin _ (fun q h12 _ => by simp only [sa_uJ_ne h12]) ?_ ?_ ?_ (fun q h12 => by simp only [sa_uJ_ne h12])) (fun c => absurd (by rw [hI, h]; decide) c)
      · simp [sa_uJ_if, zet]
      · simp [sa_uJ_if, zet]
      · simp [sa_uJ_if, zet, h]
    · refine ask 2 _ (by omega) (fun q h12 _ => by simp only [sa_uJ_ne h12]) ?_
      refine bX7_quotient_73 (fun _ => fin _ (fun q h12 _ => by simp only [sa_uJ_ne h12]) ?_ ?_ ?_ (fun q h12 => by simp only [sa_uJ_ne h12])) (fun c => absurd (by rw [hI, h]; decide) c)
      · simp [sa_uJ_if, zet]
      · simp [sa_uJ_if, zet]
      · simp [sa_uJ_if, zet, h]
theorem rq_out {n : Nat} {T X Y : Nat → Int} (rr : Rg n T) (hX : IdR n T X) (okY : okR n Y) : ∀ (d i0 many : Nat) (g : Nat → V3) (I : sa_I) (J : sa_J), i0 + d = n → many + n * d ≤ 20 → I 0 1 = nI n → (∀ i j c, i < n → j < n → c < 3 → J 2 (9 * i + 3 * j + c) = lI (T (9 * i + 3 * j + c))) → (∀ t, t < 3 * n → J 16 t = lI (Y t)) → (∀ j c, j < n → c < n → J 17 (3 * j + c) = lI (tst X c j)) → GV many g I J → (∀ many' g' I' J', SRI I I' → oT J J' → GV many' g' I' J' → (∀ H : V3 → Prop, (∀ i, i < many' → H (g' i)) ↔ ((∀ i, i < many → H (g i)) ∧ ∀ i, i0 ≤ i → i < n → ∀ c, c < n → H (zet n T X Y (nmR X) i c))) → Sat (ER l D aI aL ad) M_X7_quotient P 139 [(0, .ref (ad 0)), (1, .long (lI (nmR X)))] [] I' J') → Sat (ER l D aI aL ad) M_X7_quotient P 27 [(0, .ref (ad 0)), (1, .long (lI (nmR X))), (3, .int (nI i0))] [] I J := by
  intro d
  have h0 := rr.n
  induction d with
  | zero =>
    intro i0 many g I J hd hm hI hT hY h17 hG kk
    refine bX7_quotient_27 (fun _ => kk many g I J SRI.rfl' oT.rfl' hG (fun H => ⟨fun h => ⟨h, fun j h1 h2 => by omega⟩, fun h => h.1⟩)) (fun c => absurd ?_ c)
    rw [hI, nJ_le (by omega) (by omega)]; omega
  | succ d ih =>
    intro i0 many g I J hd hm hI hT hY h17 hG kk
    have hm' : n * (d + 1) = n * d + n := Nat.mul_succ n d
    refine bX7_quotient_27 (fun c => absurd c (by rw [hI, nJ_le (by omega) (by omega)]; omega)) (fun _ => ?_)
    refine bX7_quotient_35 (v36 := nI 0) rfl ?_
    refine rq_in rr hX okY (u := i0) (by omega) n 0 many g I J (by omega) (by omega) hI hT hY h17 hG (fun many2 g2 I2 J2 em s2 o2 G2 H2 => ?_)
    refine bX7_quotient_133 (v133 := nI (i0 + 1)) (nI_addE i0 1) ?_
    refine ih (i0 + 1) many2 g2 I2 J2 (by omega) (by omega) (by rw [s2.2 1 (by decide)]; exact hI) (fun i j c h1 h2 h3 => by rw [o2 2 (by decide) (by decide)]; exact hT i j c h1 h2 h3) (fun t ht => by rw [o2 16 (by decide) (by decide)]; exact hY t ht) (fun j c h1 h2 => by rw [o2 17 (by decide) (by decide)]; exact h17 j c h1 h2) G2 (fun many' g' I' J' s' f' G' H' => kk many' g' I' J' (s2.tr s') (o2.tr f') G' (fun H => ?_))
    rw [H' H, H2 H]
    constructor
    · rintro ⟨⟨a, b⟩, c⟩
      refine ⟨a, fun i h1 h2 => ?_⟩
      by_cases h : i = i0
      · subst h; exact fun j hj => b j (by omega) hj
      · exact c i (by omega) h2
    · rintro ⟨a, b⟩
      exact ⟨⟨a, fun j _ hj => b i0 (Nat.le_refl _) (by omega) j hj⟩, fun i h1 h2 => b i (by omega) h2⟩
/-- the dual numbers given -/
theorem rq_dual {n : Nat} {R : Nat → Int} {m : Int} {d : Nat → V3} (h0 : n = 2 ∨ n = 3) (hN : 0 < nmR R) (hNr : rg (nmR R)) (hdr : ∀ c k, rg (vk (d c) k)) (hmr : ∀ c j, rg (m * tst R c j)) (hd : ∀ c, c < n → nmR R * (d c).1 = m * tst R c 0 ∧ nmR R * (d c).2.1 = m * tst R c 1 ∧ (n = 3 → nmR R * (d c).2.2 = m * tst R c 2) ∧ (n = 2 → (d c).2.2 = 0)) : ∀ (e c0 : Nat) (g : Nat → V3) (I : sa_I) (J : sa_J), c0 + e = n → I 0 1 = nI n → (∀ j c, j < n → c < n → J 17 (3 * j + c) = lI (tst R c j)) → GV c0 g I J → (∀ i, i < c0 → g i = d i) → (∀ g' I' J', SRI I I' → (∀ q, q ≠ 13 → J' q = J q) → GV n g' I' J' → (∀ i, i < n → g' i = d i) → Sat (ER l D aI aL ad) M_X7_quotient P 234 [(0, .ref (ad 0)), (1, .long (lI m))] [] I' J') → Sat (ER l D aI aL ad) M_X7_quotient P 165 [(0, .ref (ad 0)), (1, .long (lI m)), (3, .long (lI (nmR R))), (5, .int (nI c0))] [] I J := by
  intro e
  have zN := lI_ne0 hNr (show nmR R ≠ 0 by omega)
  have qd : ∀ (c j : Nat) (x : Int), nmR R * x = m * tst R c j → lI m * lI (tst R c j) / lI (nmR R) = lI x := by
    intro c j x h
    rw [lI_mul, lI_div (hmr c j) hNr hN, ← h, Int.mul_tdiv_cancel_left _ (by omega)]
  induction e with
  | zero =>
    intro c0 g I J hd0 hI h17 hG hg kk
    obtain rfl : c0 = n := by omega
    refine bX7_quotient_165 (fun _ => kk g I J SRI.rfl' (fun _ _ => rfl) hG hg) (fun c => absurd ?_ c)
    rw [hI, nJ_le (by omega) (by omega)]; omega
  | succ e ih =>
    intro c0 g I J hd0 hI h17 hG hg kk
    refine bX7_quotient_165 (fun c => absurd c (by rw [hI, nJ_le (by omega) (by omega)]; omega)) (fun _ => ?_)
    obtain ⟨a0, a1, a2, a3⟩ := hd c0 (by omega)
    have x0 : J 17 c0 = lI (tst R c0 0) := by have := h17 0 c0 (by omega) (by omega); rw [show 3 * 0 + c0 = c0 by omega] at this; exact this
    have x1 : J 17 (3 + c0) = lI (tst R c0 1) := h17 1 c0 (by omega) (by omega)
    have go : ∀ z : Int64, z = lI (d c0).2.2 → Sat (ER l D aI aL ad) M_X7_quotient P 225 [(0, .ref (ad 0)), (1, .long (lI m)), (3, .long (lI (nmR R))), (5, .int (nI c0))] [.long z, .long (lI m * J 17 (3 + c0) / lI (nmR R)), .long (lI m * J 17 c0 / lI (nmR R)), .ref (ad 0)] I J := by
      intro z hz
      refine v_X7_255 dX7_quotient_225 rfl ⟨rfl, rfl, Nat.le_of_ble_eq_true rfl, Nat.le_of_ble_eq_true rfl⟩ (c_gives (v := d c0) hG (by omega) (by rw [x0]; exact qd c0 0 _ a0) (by rw [x1]; exact qd c0 1 _ a1) hz (fun k _ => hdr c0 k)) rfl rfl (Nat.le_of_ble_eq_true rfl) (fun r I2 J2 hp => ?_)
      obtain ⟨rfl, s2, f2, G2⟩ := hp
      refine bX7_quotient_228 (v228 := nI (c0 + 1)) (nI_addE c0 1) ?_
      refine ih (c0 + 1) _ I2 J2 (by omega) (by rw [s2.2 1 (by decide)]; exact hI) (fun j c h1 h2 => by rw [f2 17 (by decide)]; exact h17 j c h1 h2) G2 (fun i hi => ?_) (fun g' I' J' s' f' G' h' => kk g' I' J' (s2.tr s') (fun q hq => (f' q hq).trans (f2 q hq)) G' h')
      unfold updG
      by_cases h : i = c0
      · rw [if_pos h, h]
      · rw [if_neg h]; exact hg i (by omega)
    refine bX7_quotient_174 (j180 := c0) (j194 := 3 + c0) rfl (by omega) zN (nI_addE 3 c0) (by omega) zN (fun c => ?_) (fun c => ?_)
    · have hn : n = 2 := by
        rcases h0 with h | h
        · exact h
        · exact absurd (by rw [hI, h]; rfl) c
      exact bX7_quotient_224 (go 0 (by rw [a3 hn]; rfl))
    · have hn : n = 3 := by
        rcases h0 with h | h
        · rw [hI, h] at c; exact absurd c (by decide)
        · exact h
      have x2 : J 17 (6 + c0) = lI (tst R c0 2) := h17 2 c0 (by omega) (by omega)
      exact bX7_quotient_207 (j216 := 6 + c0) (nI_addE 6 c0) (by omega) zN (go _ (by rw [x2]; exact qd c0 2 _ (a2 hn)))
theorem tst_big {R : Nat → Int} {m : Int} (hm0 : 0 ≤ m) (hm : m ≤ 1000000) (h : ∀ t, t < 9 → 0 ≤ R t ∧ R t ≤ 1000000) : ∀ c j, rg (m * tst R c j) := by
  have b : ∀ t, t < 9 → bd (R t) 1000000 := fun t ht => bd_of (h t ht).1 (h t ht).2
  have bm : bd m 1000000 := bd_of hm0 hm
  have p : ∀ {x : Int}, bd x 2000000000000 → rg (m * x) := fun hx => bd_rg (bd_mul bm hx) (by decide)
  have z : rg (m * 0) := by rw [Int.mul_zero]; exact ⟨by decide, by decide⟩
  intro c j
  match c, j with
  | 0, 0 => exact p (bd_mono (bd_mul (b 4 (by decide)) (b 8 (by decide))) (by decide))
  | 0, 1 => exact p (bd_mono (bd_mul (bd_neg (b 3 (by decide))) (b 8 (by decide))) (by decide))
  | 0, 2 => exact p (bd_mono (bd_sub (bd_mul (b 3 (by decide)) (b 7 (by decide))) (bd_mul (b 6 (by decide)) (b 4 (by decide)))) (by decide))
  | 1, 1 => exact p (bd_mono (bd_mul (b 0 (by decide)) (b 8 (by decide))) (by decide))
  | 1, 2 => exact p (bd_mono (bd_mul (bd_neg (b 0 (by decide))) (b 7 (by decide))) (by decide))
  | 2, 2 => exact p (bd_mono (bd_mul (b 0 (by decide)) (b 4 (by decide))) (by decide))
  | 1, 0 => exact z
  | 2, 0 => exact z
  | 2, 1 => exact z
  | 0, j + 3 => exact z
  | 1, j + 3 => exact z
  | 2, j + 3 => exact z
  | c + 3, j => exact z
theorem c_quotient {n : Nat} {T X Y : Nat → Int} {I : sa_I} {J : sa_J} (rr : Rg n T) (hX : IdR n T X) (okY : okR n Y) (hI : I 0 1 = nI n) (hT : ∀ i j c, i < n → j < n → c < 3 → J 2 (9 * i + 3 * j + c) = lI (T (9 * i + 3 * j + c))) (hXm : ∀ t, t < 3 * n → J 15 t = lI (X t)) (hYm : ∀ t, t < 3 * n → J 16 t = lI (Y t)) : Con (ER l D aI aL ad) M_X7_quotient yX7_quotient [.ref (ad 0)] I J (fun r I1 J1 => r = none ∧ SRI I I1 ∧ (∀ q, q ≠ 12 → q ≠ 13 → q ≠ 14 → q ≠ 17 → J1 q = J q) ∧ ∃ R, Hm R ∧ R2 n R ∧ (∀ t, t < 9 → 0 ≤ R t ∧ R t ≤ 1000000) ∧ (∀ t, t < 3 * n → J1 14 t = lI (R t)) ∧ ∀ v, Sp R v ↔ ∀ i, i < n → Sp X (muv n T v (rowV Y i))) := by
  refine Con.of (by decide +kernel) rfl (Nat.le_of_ble_eq_true rfl) ?_
  have h0 := rr.n
  have hN0 : 0 < nmR X := Int.mul_pos (Int.mul_pos hX.1.1.2.2.2.1 hX.1.1.2.2.2.2.1) hX.1.1.2.2.2.2.2
  have hN := hX.2.2.2
  have h20 : 0 + n * n ≤ 20 := by rcases h0 with rfl | rfl <;> decide
  refine bX7_quotient_0 ?_
  rw [hI]
  refine v_X7_267 dX7_quotient_8 rfl ⟨rfl, rfl, Nat.le_of_ble_eq_true rfl, Nat.le_of_ble_eq_true rfl⟩ (c_normOfAll (R := X) h0 hX.2.1 aJ_R15 (by decide) (by decide) hXm) rfl rfl (Nat.le_of_ble_eq_true rfl) (fun r I1 J1 hp => ?_)
  obtain ⟨rfl, e2, e3⟩ := hp
  obtain rfl := e2.symm
  obtain rfl := e3.symm
  refine bX7_quotient_11 ?_
  refine v_X7_275 dX7_quotient_17 rfl ⟨rfl, rfl, Nat.le_of_ble_eq_true rfl, Nat.le_of_ble_eq_true rfl⟩ (c_turnsN h0 hI hX.2.1 aJ_R15 (by decide) (by decide) (by decide) hXm) rfl rfl (Nat.le_of_ble_eq_true rfl) (fun r I1 Ja hp => ?_)
  obtain ⟨rfl, e2, fa, h17⟩ := hp
  obtain rfl := e2.symm
  refine bX7_quotient_20 (v22 := nI 0) (v26 := nI 0) rfl rfl ?_
  refine rq_out rr hX okY n 0 0 (fun _ => (0, 0, 0)) (sa_uI I 0 27 (nI 0)) Ja (by omega) h20 (by rw [sa_uI_off (by decide)]; exact hI) (fun i j c h1 h2 h3 => by rw [fa 2 (by decide)]; exact hT i j c h1 h2 h3) (fun t ht => by rw [fa 16 (by decide)]; exact hYm t ht) h17 ⟨sa_uI_at, by decide, fun i hi => by omega⟩ (fun many g I1 J1 s1 o1 G1 H1 => ?_)
  have s0 : SRI I I1 := SRI.tr ⟨fun q hq => sa_uI_ne hq, fun t ht => sa_uI_off ht⟩ s1
  have hI1 : I1 0 1 = nI n := by rw [s0.2 1 (by decide)]; exact hI
  refine bX7_quotient_139 ?_
  refine v_X7_259 dX7_quotient_141 rfl ⟨rfl, rfl, Nat.le_of_ble_eq_true rfl, Nat.le_of_ble_eq_true rfl⟩ (c_triangleN h0 (W := nmR X) hI1 G1 hN0 hN) rfl rfl (Nat.le_of_ble_eq_true rfl) (fun r I2 J2 hp => ?_)
  obtain ⟨rfl, e2, f2, R, hm1, r2, hb, hR, hH⟩ := hp
  obtain rfl := e2.symm
  refine bX7_quotient_144 ?_
  refine v_X7_275 dX7_quotient_149 rfl ⟨rfl, rfl, Nat.le_of_ble_eq_true rfl, Nat.le_of_ble_eq_true rfl⟩ (c_turnsN h0 hI1 r2 aJ_R14 (by decide) (by decide) (by decide) hR) rfl rfl (Nat.le_of_ble_eq_true rfl) (fun r I2 J3 hp => ?_)
  obtain ⟨rfl, e2, f3, h17'⟩ := hp
  obtain rfl := e2.symm
  refine bX7_quotient_152 ?_
  have hR3 : ∀ t, t < 3 * n → J3 14 t = lI (R t) := fun t ht => by rw [f3 14 (by decide)]; exact hR t ht
  have con : Con (ER l D aI aL ad) M_X7_normOfRows yX7_normOfRows [.ref (ad 0)] I1 J3 (p_l (lI (nmR R)) I1 J3) := by
    rcases h0 with rfl | rfl
    · exact c_normOfRows7_2 hI1 (hR3 0 (by decide)) (hR3 4 (by decide)) (r2 rfl).2.2
    · exact c_normOfRows7_3 hI1 (hR3 0 (by decide)) (hR3 4 (by decide)) (hR3 8 (by decide))
  refine v_X7_251 dX7_quotient_153 rfl ⟨rfl, rfl, Nat.le_of_ble_eq_true rfl, Nat.le_of_ble_eq_true rfl⟩ con rfl rfl (Nat.le_of_ble_eq_true rfl) (fun r I2 J4 hp => ?_)
  obtain ⟨rfl, e2, e3⟩ := hp
  obtain rfl := e2.symm
  obtain rfl := e3.symm
  refine bX7_quotient_156 (v159 := nI 0) (v163 := nI 0) rfl rfl ?_
  have hb6 : ∀ t, t < 9 → 0 ≤ R t ∧ R t ≤ 1000000 := fun t ht => ⟨(hb t ht).1, by have := (hb t ht).2; omega⟩
  have hNR : 0 < nmR R := Int.mul_pos (Int.mul_pos hm1.1.2.2.2.1 hm1.1.2.2.2.2.1) hm1.1.2.2.2.2.2
  have hNb := nmR_bd hb6
  have hsm := (hH _ (Sp_grp R)).mp (Sp_in R)
  have hwl := sm_in h0 (Sp_grp R) hsm.1
  -- the dual numbers
  have ex : ∀ c j, c < 3 → j < 3 → ∃ x, nmR R * x = nmR X * tst R c j := by
    intro c j hc hj
    obtain ⟨x, ex⟩ := (tau_iff hm1.1 _).mp (hwl (eV j)) c hc
    refine ⟨x, ?_⟩
    rw [← ex, tau_mul]
    have : tau R c (eV j) = tst R c j := by
      unfold tau
      rcases below3 hj with rfl | rfl | rfl <;> simp [eV]
    rw [this]
  have dx : ∃ d : Nat → V3, (∀ c, c < n → nmR R * (d c).1 = nmR X * tst R c 0 ∧ nmR R * (d c).2.1 = nmR X * tst R c 1 ∧ (n = 3 → nmR R * (d c).2.2 = nmR X * tst R c 2) ∧ (n = 2 → (d c).2.2 = 0)) ∧ ∀ c k, rg (vk (d c) k) := by
    obtain ⟨x00, q00⟩ := ex 0 0 (by decide) (by decide)
    obtain ⟨x01, q01⟩ := ex 0 1 (by decide) (by decide)
    obtain ⟨x02, q02⟩ := ex 0 2 (by decide) (by decide)
    obtain ⟨x10, q10⟩ := ex 1 0 (by decide) (by decide)
    obtain ⟨x11, q11⟩ := ex 1 1 (by decide) (by decide)
    obtain ⟨x12, q12⟩ := ex 1 2 (by decide) (by decide)
    obtain ⟨x20, q20⟩ := ex 2 0 (by decide) (by decide)
    obtain ⟨x21, q21⟩ := ex 2 1 (by decide) (by decide)
    obtain ⟨x22, q22⟩ := ex 2 2 (by decide) (by decide)
    have big := tst_big (m := nmR X) (by omega) hN hb6
    have sm : ∀ {x y : Int}, nmR R * x = y → rg y → rg x := by
      intro x y h hy
      have e : x = y / nmR R := (quo_ex hNR (by rw [Int.mul_comm]; exact h.symm)).symm
      have b := bd_quo (a := y) (A := 9223372036854775808) ⟨by have := hy.1; omega, by have := hy.2; omega⟩ hNR
      rw [← e] at b
      have b1 := b.1
      have b2 := b.2
      refine ⟨by omega, ?_⟩
      by_cases c : x < 9223372036854775808
      · exact c
      · have h1 : 1 * x ≤ nmR R * x := Int.mul_le_mul_of_nonneg_right (by omega) (by omega)
        have := hy.2
        omega
    have z0 : rg 0 := ⟨by decide, by decide⟩
    rcases h0 with h | h
    · refine ⟨fun c => match c with | 0 => (x00, x01, 0) | _ => (x10, x11, 0), fun c hc => ?_, fun c k => ?_⟩
      · have hc' : c = 0 ∨ c = 1 := by omega
        rcases hc' with rfl | rfl
        · exact ⟨q00, q01, fun q => by omega, fun _ => rfl⟩
        · exact ⟨q10, q11, fun q => by omega, fun _ => rfl⟩
      · match c, k with
        | 0, 0 => exact sm q00 (big _ _)
        | 0, 1 => exact sm q01 (big _ _)
        | 0, k + 2 => exact z0
        | c + 1, 0 => exact sm q10 (big _ _)
        | c + 1, 1 => exact sm q11 (big _ _)
        | c + 1, k + 2 => exact z0
    · refine ⟨fun c => match c with | 0 => (x00, x01, x02) | 1 => (x10, x11, x12) | _ => (x20, x21, x22), fun c hc => ?_, fun c k => ?_⟩
      · rcases below3 (show c < 3 by omega) with rfl | rfl | rfl
        · exact ⟨q00, q01, fun _ => q02, fun q => by omega⟩
        · exact ⟨q10, q11, fun _ => q12, fun q => by omega⟩
        · exact ⟨q20, q21, fun _ => q22, fun q => by omega⟩
      · match c, k with
        | 0, 0 => exact sm q00 (big _ _)
        | 0, 1 => exact sm q01 (big _ _)
        | 0, k + 2 => exact sm q02 (big _ _)
        | 1, 0 => exact sm q10 (big _ _)
        | 1, 1 => exact sm q11 (big _ _)
        | 1, k + 2 => exact sm q12 (big _ _)
        | c + 2, 0 => exact sm q20 (big _ _)
        | c + 2, 1 => exact sm q21 (big _ _)
        | c + 2, k + 2 => exact sm q22 (big _ _)
  obtain ⟨d, hd, hdr⟩ := dx
  refine rq_dual h0 hNR ⟨by omega, by omega⟩ hdr (tst_big (by omega) hN hb6) hd n 0 (fun _ => (0, 0, 0)) (sa_uI I1 0 27 (nI 0)) J3 (by omega) (by rw [sa_uI_off (by decide)]; exact hI1) h17' ⟨sa_uI_at, by decide, fun i hi => by omega⟩ (fun i hi => by omega) (fun g5 I5 J5 s5 f5 G5 e5 => ?_)
  have s05 : SRI I I5 := s0.tr (SRI.tr ⟨fun q hq => sa_uI_ne hq, fun t ht => sa_uI_off ht⟩ s5)
  refine bX7_quotient_234 ?_
  refine v_X7_259 dX7_quotient_236 rfl ⟨rfl, rfl, Nat.le_of_ble_eq_true rfl, Nat.le_of_ble_eq_true rfl⟩ (c_triangleN h0 (W := nmR X) (by rw [s05.2 1 (by decide)]; exact hI) G5 hN0 hN) rfl rfl (Nat.le_of_ble_eq_true rfl) (fun r I6 J6 hp => ?_)
  obtain ⟨rfl, e2, f6, R', hm6, r26, hb6', hR6, hH6⟩ := hp
  obtain rfl := e2.symm
  refine bX7_quotient_239 ⟨rfl, s05, fun q h12 h13 h14 h17 => ?_, R', hm6, r26, fun t ht => ⟨(hb6' t ht).1, by have := (hb6' t ht).2; omega⟩, hR6, fun v => ?_⟩
  · rw [f6 q h13 h14, f5 q h13, f3 q h17, f2 q h13 h14, o1 q h12 h13, fa q h17]
  · rw [dual_iff h0 (m := nmR X) hm1.1 r2 (fun c hc => ⟨(hd c hc).1, (hd c hc).2.1, (hd c hc).2.2.1⟩) (fun H gg => by rw [hH6 H gg]; exact ⟨fun h => ⟨h.1, fun c hc => by have := h.2 c hc; rw [e5 c hc] at this; exact this⟩, fun h => ⟨h.1, fun c hc => by rw [e5 c hc]; exact h.2 c hc⟩⟩) v]
    have step : (∀ k, k < n → nmR X ∣ ip n v (rowV R k)) ↔ In3 (fun u => nmR X ∣ ip n v u) R := by
      rw [in3_rowsN h0 hm1.1 r2]
      intro h
      show nmR X ∣ ip n v (0, 0, 1)
      unfold ip; rw [if_pos h]; simp
    have H1v := H1 (fun u => nmR X ∣ ip n v u)
    rw [step, hH _ (ip_grp n v _)]
    constructor
    · rintro ⟨_, h⟩ i hi
      have h2 := (H1v.mp h).2
      exact (tau_iffN h0 hX.1.1 hX.2.1 _).mpr (fun c hc => (zet_ip hX.2.1 hc v).mp (h2 i (by omega) hi c hc))
    · intro h
      exact ⟨sm_ip h0 v _, H1v.mpr ⟨fun i hi => by omega, fun i _ hi c hc => (zet_ip hX.2.1 hc v).mpr ((tau_iffN h0 hX.1.1 hX.2.1 _).mp (h i hi) c hc)⟩⟩
end RQ
