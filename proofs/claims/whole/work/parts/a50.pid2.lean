/-- the last of a way that brings the ideal to 0, by the first -/
def lsW (n : Nat) (R : Nat → Int) (u : Int) : Int := if n = 2 then 0 else (-R 6 - R 7 * u) % R 0
def inW (n : Nat) (T R : Nat → Int) (u : Int) : Prop := R 0 ∣ (R 3 + R 4 * u) ∧ ((R 8 = 1 ∧ wy n T (R 0) u (lsW n R u)) ∨ (¬ R 8 = 1 ∧ lsW n R u = 0 ∧ ∃ w, 0 ≤ w ∧ w < R 0 ∧ wy n T (R 0) u w))
theorem KW_in {n : Nat} {T R : Nat → Int} (rr : Rg n T) (h : IdR n T R) (p2 : 2 ≤ R 0) (s8 : R 8 = 1 ∨ R 8 = R 0) : KW n T R ↔ ∃ u, 0 ≤ u ∧ u < R 0 ∧ inW n T R u := by
  have h0 := rr.n
  constructor
  · rintro ⟨u, v, hv, w, k1, k2⟩
    have du : R 0 ∣ (u % R 0 - u) := md_dvd u (R 0)
    have du' : R 0 ∣ (u - u % R 0) := by rw [← Int.neg_sub]; exact Int.dvd_neg.mpr du
    refine ⟨u % R 0, Int.emod_nonneg _ (by omega), Int.emod_lt_of_pos _ (by omega), ?_, ?_⟩
    · have e : R 3 + R 4 * (u % R 0) = (R 3 + R 4 * u) + R 4 * (u % R 0 - u) := by rw [Int.mul_sub]; omega
      rw [e]; exact Int.dvd_add k1 (Int.dvd_mul_of_dvd_right du)
    · by_cases c : R 8 = 1
      · refine Or.inl ⟨c, (wy_mod du' ?_).mp w⟩
        unfold lsW
        rcases h0 with rfl | rfl
        · rw [if_pos rfl, hv rfl]; exact ⟨0, by omega⟩
        · rw [if_neg (by decide)]
          have a := k2 rfl
          rw [c] at a
          have b := md_dvd (-R 6 - R 7 * (u % R 0)) (R 0)
          have e : v - (-R 6 - R 7 * (u % R 0)) % R 0 = (R 6 + R 7 * u + 1 * v) + R 7 * (u % R 0 - u) - ((-R 6 - R 7 * (u % R 0)) % R 0 - (-R 6 - R 7 * (u % R 0))) := by rw [Int.mul_sub]; omega
          rw [e]; exact Int.dvd_sub (Int.dvd_add a (Int.dvd_mul_of_dvd_right du)) b
      · have c8 : R 8 = R 0 := s8.resolve_left c
        have hn : n = 3 := h0.resolve_left (fun q => c (h.2.1 q).2.2)
        subst hn
        refine Or.inr ⟨c, ?_, v % R 0, Int.emod_nonneg _ (by omega), Int.emod_lt_of_pos _ (by omega), (wy_mod du' (by rw [← Int.neg_sub]; exact Int.dvd_neg.mpr (md_dvd v (R 0)))).mp w⟩
        unfold lsW
        rw [if_neg (by decide)]
        apply Int.emod_eq_zero_of_dvd
        obtain ⟨a, ha⟩ := k2 rfl
        rw [c8] at ha
        have e : -R 6 - R 7 * (u % R 0) = R 0 * v - (R 6 + R 7 * u + R 0 * v) - R 7 * (u % R 0 - u) := by rw [Int.mul_sub]; omega
        rw [e]; exact Int.dvd_sub (Int.dvd_sub (Int.dvd_mul_right _ _) ⟨a, ha⟩) (Int.dvd_mul_of_dvd_right du)
  · rintro ⟨u, _, _, k1, hh⟩
    rcases hh with ⟨c, w⟩ | ⟨c, e, v, _, _, w⟩
    · refine ⟨u, lsW n R u, fun hn => by unfold lsW; rw [if_pos hn], w, k1, fun hn => ?_⟩
      unfold lsW
      rw [if_neg (by omega), c]
      have b := md_dvd (-R 6 - R 7 * u) (R 0)
      have e : R 6 + R 7 * u + 1 * ((-R 6 - R 7 * u) % R 0) = (-R 6 - R 7 * u) % R 0 - (-R 6 - R 7 * u) := by omega
      rw [e]; exact b
    · have c8 : R 8 = R 0 := s8.resolve_left c
      have hn : n = 3 := h0.resolve_left (fun q => c (h.2.1 q).2.2)
      subst hn
      refine ⟨u, v, fun q => absurd q (by decide), w, k1, fun _ => ?_⟩
      unfold lsW at e
      rw [if_neg (by decide)] at e
      obtain ⟨a, ha⟩ := Int.dvd_of_emod_eq_zero e
      rw [c8]
      exact ⟨v - a, by rw [Int.mul_sub, ← ha]; omega⟩
section PIB
variable {l : Launch} {D : va_G} {aI aL : ClassId} {ad : Nat → Nat} {P : sa_P} {I : sa_I} {J : sa_J}
theorem hw_in {T R : Nat → Int} (rr : Rg 3 T) {p : Nat} (hp1 : 2 ≤ p) (hp2 : p ≤ 1000) (hp : R 0 = p) (c8 : ¬ R 8 = 1) (hI : I 0 1 = nI 3) (hT : ∀ i j c, i < 3 → j < 3 → c < 3 → J 2 (9 * i + 3 * j + c) = lI (T (9 * i + 3 * j + c))) {x u : Nat} (hu : u < p) (k1 : R 0 ∣ (R 3 + R 4 * (u : Int))) (hl : lsW 3 R u = 0) (ky : inW 3 T R u → P (some (.int 1)) I J) (kn : ¬ inW 3 T R u → Sat (ER l D aI aL ad) M_X7_hasWay P 179 [(0, .ref (ad 0)), (2, .int (nI p)), (3, .int (nI (9 * x))), (4, .int (nI p)), (5, .int (nI u))] [] I J) : ∀ (d w : Nat), w + d = p → (∀ y : Int, 0 ≤ y → y < w → ¬ wy 3 T p u y) → Sat (ER l D aI aL ad) M_X7_hasWay P 125 [(0, .ref (ad 0)), (2, .int (nI p)), (3, .int (nI (9 * x))), (4, .int (nI p)), (5, .int (nI u)), (6, .long (lI 0)), (8, .int (nI w))] [] I J := by
  intro d
  induction d with
  | zero =>
    intro w e hn
    refine bX7_hasWay_125 (fun _ => kn ?_) (fun c => absurd (by rw [nJ_le (by omega) (by omega)]; omega) c)
    rintro ⟨_, hh⟩
    rcases hh with ⟨c, _⟩ | ⟨_, _, y, y0, y1, y2⟩
    · exact c8 c
    · rw [hp] at y1 y2; exact hn y y0 (by omega) y2
  | succ d ih =>
    intro w e hn
    refine bX7_hasWay_125 (fun c => absurd c (by rw [nJ_le (by omega) (by omega)]; omega)) (fun _ => ?_)
    refine bX7_hasWay_132 (fun c => absurd c (by rw [nI_lit 1, nJ_eq (by omega) (by omega)]; omega)) (fun _ => ?_)
    refine bX7_hasWay_138 (fun c => absurd rfl c) (fun _ => ?_)
    refine bX7_hasWay_145 (fun _ => bX7_hasWay_160 (bX7_hasWay_163 ?_)) (fun c => absurd c (by rw [nI_lit 1, nJ_eq (by omega) (by omega)]; omega))
    rw [nI_L (p := u) (by omega), nI_L (p := w) (by omega), nI_L (p := p) (by omega)]
    refine v_X7_297 dX7_hasWay_165 rfl ⟨rfl, rfl, Nat.le_of_ble_eq_true rfl, Nat.le_of_ble_eq_true rfl⟩ (c_isWayZ rr hp1 hp2 (a := (u : Int)) (b := (w : Int)) ⟨by omega, by omega⟩ ⟨by omega, by omega⟩ hI hT) rfl rfl (Nat.le_of_ble_eq_true rfl) (fun r I1 J1 hq => ?_)
    obtain ⟨e1, e2, hb⟩ := hq
    obtain rfl := e1.symm
    obtain rfl := e2.symm
    rcases hb with ⟨b, rfl⟩ | ⟨b, rfl⟩
    · refine bX7_hasWay_168 (fun c => absurd c (by decide)) (fun _ => bX7_hasWay_171 (ky ⟨k1, Or.inr ⟨c8, hl, w, by omega, by rw [hp]; omega, by rw [hp]; exact b⟩⟩))
    · refine bX7_hasWay_168 (fun _ => bX7_hasWay_173 (v173 := nI (w + 1)) (nI_addE w 1) (ih (w + 1) (by omega) (fun y y0 y1 => ?_))) (fun c => absurd rfl c)
      by_cases c : y = w
      · subst c; exact b
      · exact hn y y0 (by omega)
theorem hw_out {n : Nat} {T R : Nat → Int} (rr : Rg n T) (h : IdR n T R) {p : Nat} (hp1 : 2 ≤ p) (hp2 : p ≤ 1000) (hp : R 0 = p) (s8 : R 8 = 1 ∨ R 8 = R 0) (hI : I 0 1 = nI n) (hT : ∀ i j c, i < n → j < n → c < 3 → J 2 (9 * i + 3 * j + c) = lI (T (9 * i + 3 * j + c))) {x : Nat} (hx : x < 80) (hR : ∀ t, t < 3 * n → I 4 (9 * x + t) = iI (R t)) (kk : ∀ r, bP (KW n T R) r → P r I J) {al : Nat} (hal : al = if R 8 = 1 then 1 else p) : ∀ (d u : Nat), u + d = p → (∀ y : Int, 0 ≤ y → y < u → ¬ inW n T R y) → Sat (ER l D aI aL ad) M_X7_hasWay P 37 [(0, .ref (ad 0)), (2, .int (nI p)), (3, .int (nI (9 * x))), (4, .int (nI al)), (5, .int (nI u))] [] I J := by
  have h0 := rr.n
  have bR := h.1.bd h.2.2.2
  have hK := KW_in rr h (by omega) s8
  have g9 : ∀ t, t < 9 → t < 3 * n → (I 4 (9 * x + t)).toInt64 = lI (R t) := by
    intro t h9 ht
    have hb := bR t h9
    rw [hR t ht]; exact iI_lI ⟨by omega, by omega⟩
  have gp : rg (p : Int) := ⟨by omega, by omega⟩
  intro d
  induction d with
  | zero =>
    intro u e hn
    refine bX7_hasWay_37 (fun _ => bX7_hasWay_185 (kk _ (Or.inr ⟨?_, rfl⟩))) (fun c => absurd (by rw [nJ_le (by omega) (by omega)]; omega) c)
    rw [hK]; rintro ⟨y, y0, y1, y2⟩; exact hn y y0 (by omega) y2
  | succ d ih =>
    intro u e hn
    have kn : ¬ inW n T R u → Sat (ER l D aI aL ad) M_X7_hasWay P 179 [(0, .ref (ad 0)), (2, .int (nI p)), (3, .int (nI (9 * x))), (4, .int (nI al)), (5, .int (nI u))] [] I J := by
      intro hu
      refine bX7_hasWay_179 (v179 := nI (u + 1)) (nI_addE u 1) (ih (u + 1) (by omega) (fun y y0 y1 => ?_))
      by_cases c : y = u
      · subst c; exact hu
      · exact hn y y0 (by omega)
    have ky : inW n T R u → P (some (.int 1)) I J := fun q => kk _ (Or.inl ⟨hK.mpr ⟨u, by omega, by omega, q⟩, rfl⟩)
    refine bX7_hasWay_37 (fun c => absurd c (by rw [nJ_le (by omega) (by omega)]; omega)) (fun _ => ?_)
    have b3 := bR 3 (by decide)
    have b4 := bR 4 (by decide)
    have b6 := bR 6 (by decide)
    have b7 := bR 7 (by decide)
    have bu : bd (u : Int) 1000 := ⟨by omega, by omega⟩
    have gz : rg (R 3 + R 4 * (u : Int)) := bd_rg (bd_add (A := 1000000) ⟨by omega, by omega⟩ (bd_mul (A := 1000000) ⟨by omega, by omega⟩ bu)) (by decide)
    have ez : (I 4 (9 * x + 3)).toInt64 + (I 4 (9 * x + 4)).toInt64 * (nI u).toInt64 = lI (R 3 + R 4 * (u : Int)) := by
      rw [g9 3 (by decide) (by omega), g9 4 (by decide) (by omega), nI_L (p := u) (by omega), lI_mul, lI_add]
    have zp : ¬ (nI p).toInt64 = 0 := by rw [nI_L (p := p) (by omega)]; exact lI_ne0 gp (by omega)
    refine bX7_hasWay_43 (j49 := 9 * x + 3) (j58 := 9 * x + 4) (nI_addE _ 3) (by omega) (nI_addE _ 4) (by omega) zp (fun c => ?_) (fun c => ?_)
    rotate_left
    · rw [ez, nI_L (p := p) (by omega), rm_dvd gz gp (by omega)] at c
      refine bX7_hasWay_74 (kn ?_)
      rintro ⟨⟨a, ha⟩, _⟩
      exact c ⟨a, by rw [ha, hp, Int.mul_comm]⟩
    rw [ez, nI_L (p := p) (by omega), rm_dvd gz gp (by omega)] at c
    have k1 : R 0 ∣ (R 3 + R 4 * (u : Int)) := by obtain ⟨a, ha⟩ := c; exact ⟨a, by rw [ha, hp, Int.mul_comm]⟩
    have s120 : Sat (ER l D aI aL ad) M_X7_hasWay P 120 [(0, .ref (ad 0)), (2, .int (nI p)), (3, .int (nI (9 * x))), (4, .int (nI al)), (5, .int (nI u))] [.long (lI (lsW n R u))] I J := by
      have bl : bd (lsW n R u) 1000 := by
        unfold lsW
        by_cases c2 : n = 2
        · rw [if_pos c2]; exact ⟨by decide, by decide⟩
        · rw [if_neg c2, hp]; exact md_bdZ _ hp1 hp2
      refine bX7_hasWay_120 (v123 := nI 0) rfl ?_
      by_cases c8 : R 8 = 1
      · rw [if_pos c8] at hal
        subst hal
        refine bX7_hasWay_125 (fun c => absurd c (by decide)) (fun _ => ?_)
        refine bX7_hasWay_132 (fun _ => ?_) (fun c => absurd rfl c)
        refine bX7_hasWay_145 (fun c => absurd rfl c) (fun _ => bX7_hasWay_155 (bX7_hasWay_163 ?_))
        rw [nI_L (p := u) (by omega), nI_L (p := p) (by omega)]
        refine v_X7_297 dX7_hasWay_165 rfl ⟨rfl, rfl, Nat.le_of_ble_eq_true rfl, Nat.le_of_ble_eq_true rfl⟩ (c_isWayZ rr hp1 hp2 (a := (u : Int)) (b := lsW n R u) bu bl hI hT) rfl rfl (Nat.le_of_ble_eq_true rfl) (fun r I1 J1 hq => ?_)
        obtain ⟨e1, e2, hb⟩ := hq
        obtain rfl := e1.symm
        obtain rfl := e2.symm
        rcases hb with ⟨b, rfl⟩ | ⟨b, rfl⟩
        · exact bX7_hasWay_168 (fun c => absurd c (by decide)) (fun _ => bX7_hasWay_171 (ky ⟨k1, Or.inl ⟨c8, by rw [hp]; exact b⟩⟩))
        · refine bX7_hasWay_168 (fun _ => bX7_hasWay_173 (v173 := nI 1) rfl (bX7_hasWay_125 (fun _ => kn ?_) (fun c => absurd (by decide) c))) (fun c => absurd rfl c)
          rintro ⟨_, hh⟩
          rcases hh with ⟨_, q⟩ | ⟨q, _⟩
          · rw [hp] at q; exact b q
          · exact q c8
      · have hn3 : n = 3 := h0.resolve_left (fun q => c8 (h.2.1 q).2.2)
        subst hn3
        rw [if_neg c8] at hal
        rw [hal] at kn ⊢
        by_cases cl : lsW 3 R u = 0
        · rw [cl]
          exact hw_in rr hp1 hp2 hp c8 hI hT (by omega) k1 cl ky kn p 0 (by omega) (fun y a b => absurd a (by omega))
        · refine bX7_hasWay_125 (fun c => absurd c (by rw [nJ_le (by omega) (by omega)]; omega)) (fun _ => ?_)
          refine bX7_hasWay_132 (fun c => absurd c (by rw [nI_lit 1, nJ_eq (by omega) (by omega)]; omega)) (fun _ => ?_)
          refine bX7_hasWay_138 (fun _ => kn ?_) (fun c => absurd ((lI_eq (bd_rg bl (by decide)) (b := 0) ⟨by omega, by omega⟩).mp c) cl)
          rintro ⟨_, hh⟩
          rcases hh with ⟨q, _⟩ | ⟨_, q, _⟩
          · exact c8 q
          · exact cl q
    refine bX7_hasWay_77 (fun c => ?_) (fun c => ?_)
    · have hn2 : ¬ n = 2 := fun q => c (by rw [hI, q]; rfl)
      have hn3 : n = 3 := h0.resolve_left hn2
      refine bX7_hasWay_89 (j96 := 9 * x + 6) (j107 := 9 * x + 7) (nI_addE _ 6) (by omega) (nI_addE _ 7) (by omega) ?_
      have ew : -(I 4 (9 * x + 6)).toInt64 - (I 4 (9 * x + 7)).toInt64 * (nI u).toInt64 = lI (-R 6 - R 7 * (u : Int)) := by
        rw [g9 6 (by decide) (by omega), g9 7 (by decide) (by omega), nI_L (p := u) (by omega), lI_mul, lI_neg, lI_sub]
      have gw : rg (-R 6 - R 7 * (u : Int)) := bd_rg (bd_sub (A := 1000000) ⟨by omega, by omega⟩ (bd_mul (A := 1000000) ⟨by omega, by omega⟩ bu)) (by decide)
      refine v_X7_155 dX7_hasWay_117 rfl ⟨rfl, rfl, Nat.le_of_ble_eq_true rfl, Nat.le_of_ble_eq_true rfl⟩ (c_floorModE (a := -R 6 - R 7 * (u : Int)) (W := p) (z := lsW n R u) ew (nI_L (p := p) (by omega)) gw (by omega) (by omega) (by unfold lsW; rw [if_neg hn2, hp])) rfl rfl (Nat.le_of_ble_eq_true rfl) (fun r I1 J1 hq => ?_)
      obtain ⟨rfl, e1, e2⟩ := hq
      obtain rfl := e1.symm
      obtain rfl := e2.symm
      exact s120
    · have hn2 : n = 2 := h0.resolve_right (fun q => by rw [hI, q] at c; exact absurd c (by decide))
      have e : lsW n R u = 0 := by unfold lsW; rw [if_pos hn2]
      rw [e] at s120
      exact bX7_hasWay_85 s120
theorem c_hasWay {n : Nat} {T R : Nat → Int} (rr : Rg n T) (h : IdR n T R) {p : Nat} (hp1 : 2 ≤ p) (hp2 : p ≤ 1000) (hp : R 0 = p) (s8 : R 8 = 1 ∨ R 8 = R 0) (hI : I 0 1 = nI n) (hT : ∀ i j c, i < n → j < n → c < 3 → J 2 (9 * i + 3 * j + c) = lI (T (9 * i + 3 * j + c))) {x : Nat} (hx : x < 80) (hR : ∀ t, t < 3 * n → I 4 (9 * x + t) = iI (R t)) : Con (ER l D aI aL ad) M_X7_hasWay yX7_hasWay [.ref (ad 0), .int (nI x), .int (nI p)] I J (fun r I1 J1 => I1 = I ∧ J1 = J ∧ bP (KW n T R) r) := by
  refine Con.of (by decide +kernel) rfl (Nat.le_of_ble_eq_true rfl) ?_
  have h0 := rr.n
  have go : ∀ {al : Nat}, al = (if R 8 = 1 then 1 else p) → Sat (ER l D aI aL ad) M_X7_hasWay (fun r I1 J1 => I1 = I ∧ J1 = J ∧ bP (KW n T R) r) 32 [(0, .ref (ad 0)), (2, .int (nI p)), (3, .int (nI (9 * x)))] [.int (nI al)] I J := fun hal =>
    bX7_hasWay_32 (v35 := nI 0) rfl (hw_out rr h hp1 hp2 hp s8 hI hT hx hR (fun r hr => ⟨rfl, rfl, hr⟩) hal p 0 (by omega) (fun y a b => absurd a (by omega)))
  refine bX7_hasWay_0 (v4 := nI (9 * x)) (by rw [nI_lit 9, nI_mulE]) (fun c => bX7_hasWay_31 (go (al := 1) ?_)) (fun c => ?_)
  · rw [if_pos]
    exact (h.2.1 (h0.resolve_right (fun q => c (by rw [hI, q]; rfl)))).2.2
  · have hn : n = 3 := h0.resolve_left (fun q => by rw [hI, q] at c; exact absurd c (by decide))
    subst hn
    have g8 : I 4 (9 * x + 8) = iI (R 8) := hR 8 (by decide)
    have gi : ∀ z : Int, 0 ≤ z → z ≤ 1000 → rgi z := fun z a b => ⟨by omega, by omega⟩
    have gp := gi p (by omega) (by omega)
    refine bX7_hasWay_13 (j20 := 9 * x + 8) (nI_addE _ 8) (by omega) (by rw [nI_lit 0, nJ_eq (by omega) (by omega)]; omega) (fun c => bX7_hasWay_31 (go (al := 1) ?_)) (fun c => bX7_hasWay_27 (go (al := p) ?_))
    · rw [if_pos]
      refine s8.resolve_right (fun q => c ?_)
      rw [g8, q, hp, nI_iI, iI_rem gp gp (by omega), Int.tmod_self]; rfl
    · rw [if_neg]
      intro q
      rw [g8, q, nI_iI, iI_rem (gi 1 (by decide) (by decide)) gp (by omega), Int.tmod_eq_emod_of_nonneg (by decide), Int.emod_eq_of_lt (by decide) (by omega)] at c
      exact absurd c (by decide)
end PIB
