/-! findThird -/
def ftL (W : Int → Int → Bool) (d e : Int) (ne : Nat) : Nat → Int → Option (Int × Int)
  | 0, _ => none
  | f + 1, g => if g * d < e then (match fsH (W g) ne 0 with
      | some k => some (g, k)
      | none => ftL W d e ne f (g + 1)) else none
def ftE (pd : Int64) (W : Int → Int → Int → Bool) (d : Int) : Nat → Option (Int × Int × Int)
  | 0 => none
  | e + 1 => if rm (lI ((e : Int) + 1)) (lI d * lI d) = 0 ∧ rm pd (lI d * lI d * lI ((e : Int) + 1) * lI ((e : Int) + 1)) = 0 then (match ftL (W ((e : Int) + 1)) d ((e : Int) + 1) (e + 1) 91 0 with
      | some (g, k) => some ((e : Int) + 1, g, k)
      | none => ftE pd W d e) else ftE pd W d e
section FT
variable {l : Launch} {D : va_G} {aI aL : ClassId} {ad : Nat → Nat} {P : sa_P} {I : sa_I} {J : sa_J}
theorem ft_k (hd : I 4 0 = nI 3) {d e g : Int} (h1 : 1 ≤ e) (h2 : e ≤ 90) : ∀ (f : Nat) (k : Int) (Jc : sa_J), k + f = e → 0 ≤ k → agM J Jc →
    (∀ Jx k', agM J Jx → fsH (fun k => isW 3 (J 5) (lI k) (lI g) 1 (lI e)) f k = some k' → P (some (.int 1)) I (sa_uJ (sa_uJ (sa_uJ Jx 6 6 (lI k')) 6 7 (lI g)) 7 2 (lI e))) →
    (fsH (fun k => isW 3 (J 5) (lI k) (lI g) 1 (lI e)) f k = none → ∀ Jx, agM J Jx → Sat (EC l D aI aL ad) M_X4_findThirdBy P 78 [(0, .ref (ad 4)), (1, .long (lI d)), (3, .long (lI e)), (5, .long (lI g))] [] I Jx) →
    Sat (EC l D aI aL ad) M_X4_findThirdBy P 22 [(0, .ref (ad 4)), (1, .long (lI d)), (3, .long (lI e)), (5, .long (lI g)), (7, .long (lI k))] [] I Jc := by
  intro f
  induction f with
  | zero =>
    intro k Jc e0 e1 hJ ks kn
    obtain rfl : k = e := by omega
    exact bX4_findThirdBy_22 (fun _ => kn rfl Jc hJ) (fun c => absurd ((lI_le ⟨by omega, by omega⟩ ⟨by omega, by omega⟩).mpr (Int.le_refl k)) c)
  | succ f ih =>
    intro k Jc e0 e1 hJ ks kn
    refine bX4_findThirdBy_22 (fun c => absurd ((lI_le ⟨by omega, by omega⟩ ⟨by omega, by omega⟩).mp c) (by omega)) (fun _ => ?_)
    refine bX4_findThirdBy_29 (v_X4_64 dX4_findThirdBy_36 rfl ⟨rfl, rfl, Nat.le_of_ble_eq_true rfl, Nat.le_of_ble_eq_true rfl⟩ (c_isWhole (n := 3) (Or.inr rfl) hd h1 h2) rfl rfl (Nat.le_of_ble_eq_true rfl) (fun r I1 J1 hp => ?_))
    obtain ⟨rfl, rfl, hf⟩ := hp
    have hJ1 := hJ.tr hf
    rw [hJ 5 (by decide)]
    by_cases hw : isW 3 (J 5) (lI k) (lI g) 1 (lI e) = true
    · rw [if_pos hw]
      refine bX4_findThirdBy_39 (fun c => absurd c (by decide)) (fun _ => bX4_findThirdBy_42 (ks J1 k hJ1 ?_))
      rw [fsH, if_pos hw]
    · rw [if_neg hw]
      have e3 : fsH (fun k => isW 3 (J 5) (lI k) (lI g) 1 (lI e)) (f + 1) k = fsH (fun k => isW 3 (J 5) (lI k) (lI g) 1 (lI e)) f (k + 1) := by rw [fsH, if_neg hw]
      refine bX4_findThirdBy_39 (fun _ => bX4_findThirdBy_69 (lI_add k 1) (ih (k + 1) J1 (by omega) (by omega) hJ1 (fun Jx h' a b => ks Jx h' a (e3.trans b)) (fun a => kn (e3.trans a)))) (fun c => absurd rfl c)
theorem ft_l (hd : I 4 0 = nI 3) {d e : Int} {ne : Nat} (hne : (ne : Int) = e) (hd1 : 1 ≤ d) (hd2 : d ≤ 90) (h1 : 1 ≤ e) (h2 : e ≤ 90) : ∀ (f : Nat) (g : Int) (Jc : sa_J), g + f = 91 → 0 ≤ g → agM J Jc →
    (∀ Jx g' k', agM J Jx → ftL (fun g k => isW 3 (J 5) (lI k) (lI g) 1 (lI e)) d e ne f g = some (g', k') → P (some (.int 1)) I (sa_uJ (sa_uJ (sa_uJ Jx 6 6 (lI k')) 6 7 (lI g')) 7 2 (lI e))) →
    (ftL (fun g k => isW 3 (J 5) (lI k) (lI g) 1 (lI e)) d e ne f g = none → ∀ Jx, agM J Jx → P (some (.int 0)) I Jx) →
    Sat (EC l D aI aL ad) M_X4_findThirdBy P 3 [(0, .ref (ad 4)), (1, .long (lI d)), (3, .long (lI e)), (5, .long (lI g))] [] I Jc := by
  intro f
  induction f with
  | zero =>
    intro g Jc e0 e1 hJ ks kn
    obtain rfl : g = 91 := by omega
    refine bX4_findThirdBy_3 (fun _ => bX4_findThirdBy_87 (kn rfl Jc hJ)) (fun c => absurd ?_ c)
    rw [lI_le ⟨by omega, by omega⟩ ⟨by omega, by omega⟩]; omega
  | succ f ih =>
    intro g Jc e0 e1 hJ ks kn
    have hg : g * d ≤ 91 * 90 := Int.mul_le_mul (by omega) hd2 (by omega) (by omega)
    have hg0 : 0 ≤ g * d := Int.mul_nonneg e1 (by omega)
    have hgd : g * 1 ≤ g * d := Int.mul_le_mul_of_nonneg_left hd1 e1
    refine bX4_findThirdBy_3 (fun c => ?_) (fun _ => bX4_findThirdBy_10 (fun c => ?_) (fun c => ?_))
    · rw [lI_le ⟨by omega, by omega⟩ ⟨by omega, by omega⟩] at c
      exact bX4_findThirdBy_87 (kn (by rw [ftL, if_neg (by omega)]) Jc hJ)
    · rw [lI_mul, lI_le ⟨by omega, by omega⟩ ⟨by omega, by omega⟩] at c
      exact bX4_findThirdBy_87 (kn (by rw [ftL, if_neg (by omega)]) Jc hJ)
    · rw [lI_mul, lI_le ⟨by omega, by omega⟩ ⟨by omega, by omega⟩] at c
      have c : g * d < e := by omega
      refine bX4_findThirdBy_19 (v20 := lI 0) rfl (ft_k hd h1 h2 ne 0 Jc (by omega) (by omega) hJ (fun Jx k' a b => ks Jx g k' a ?_) (fun a Jx hx => ?_))
      · rw [ftL, if_pos c, b]
      · have e4 : ftL (fun g k => isW 3 (J 5) (lI k) (lI g) 1 (lI e)) d e ne (f + 1) g = ftL (fun g k => isW 3 (J 5) (lI k) (lI g) 1 (lI e)) d e ne f (g + 1) := by rw [ftL, if_pos c, a]
        exact bX4_findThirdBy_78 (lI_add g 1) (ih (g + 1) Jx (by omega) (by omega) hx (fun Jy g' k' a b => ks Jy g' k' a (e4.trans b)) (fun a => kn (e4.trans a)))
theorem c_findThirdBy (hd : I 4 0 = nI 3) {d e : Int} {ne : Nat} (hne : (ne : Int) = e) (hd1 : 1 ≤ d) (hd2 : d ≤ 90) (h1 : 1 ≤ e) (h2 : e ≤ 90) : Con (EC l D aI aL ad) M_X4_findThirdBy yX4_findThirdBy [.ref (ad 4), .long (lI d), .long (lI e)] I J (fun r I1 J1 => I1 = I ∧ match ftL (fun g k => isW 3 (J 5) (lI k) (lI g) 1 (lI e)) d e ne 91 0 with
    | some (g, k) => r = some (.int 1) ∧ ∃ Jx, agM J Jx ∧ J1 = sa_uJ (sa_uJ (sa_uJ Jx 6 6 (lI k)) 6 7 (lI g)) 7 2 (lI e)
    | none => r = some (.int 0) ∧ agM J J1) := by
  refine Con.of (by decide +kernel) rfl (Nat.le_of_ble_eq_true rfl) ?_
  refine bX4_findThirdBy_0 (v1 := lI 0) rfl (ft_l hd hne hd1 hd2 h1 h2 91 0 J (by omega) (by omega) (fun _ _ => rfl) (fun Jx g k a b => ⟨rfl, ?_⟩) (fun a Jx hx => ⟨rfl, ?_⟩))
  · rw [b]; exact ⟨rfl, Jx, a, rfl⟩
  · rw [a]; exact ⟨rfl, hx⟩
theorem nz4 {d e : Int} (hd1 : 1 ≤ d) (hd2 : d ≤ 90) (h1 : 1 ≤ e) (h2 : e ≤ 90) : ¬ lI d * lI d * lI e * lI e = 0 := fun q => by
  have hs := sq_le hd1 hd2
  have a1 : d * d * e ≤ 8100 * 90 := Int.mul_le_mul hs.2 h2 (by omega) (by omega)
  have a2 : 1 * 1 ≤ d * d * e := Int.mul_le_mul hs.1 h1 (by omega) (by omega)
  have a3 : d * d * e * e ≤ 8100 * 90 * 90 := Int.mul_le_mul a1 h2 (by omega) (by omega)
  have a4 : 1 * 1 * 1 ≤ d * d * e * e := Int.mul_le_mul a2 h1 (by omega) (by omega)
  rw [lI_mul, lI_mul, lI_mul] at q
  have := (lI_eq (b := 0) ⟨by omega, by omega⟩ ⟨by omega, by omega⟩).mp q
  omega
theorem ft_e (hd : I 4 0 = nI 3) {d : Int} (hd1 : 1 ≤ d) (hd2 : d ≤ 90) : ∀ (e : Nat) (Jc : sa_J), e ≤ 90 → agM J Jc →
    (∀ Jx e' g k, agM J Jx → ftE (J 4 1) (fun e g k => isW 3 (J 5) (lI k) (lI g) 1 (lI e)) d e = some (e', g, k) → P none I (sa_uJ (sa_uJ (sa_uJ Jx 6 6 (lI k)) 6 7 (lI g)) 7 2 (lI e'))) →
    (ftE (J 4 1) (fun e g k => isW 3 (J 5) (lI k) (lI g) 1 (lI e)) d e = none → ∀ Jx, agM J Jx → P none I Jx) →
    Sat (EC l D aI aL ad) M_X4_findThird P 11 [(0, .ref (ad 4)), (1, .long (lI d)), (3, .long (lI e))] [] I Jc := by
  intro e
  induction e with
  | zero =>
    intro Jc _ hJ ks kn
    exact bX4_findThird_11 (fun _ => bX4_findThird_67 (kn rfl Jc hJ)) (fun c => absurd (show lI ((0 : Nat) : Int) < 1 by decide) c)
  | succ e ih =>
    intro Jc he90 hJ ks kn
    have h1 : 1 ≤ (e : Int) + 1 := by omega
    have h2 : (e : Int) + 1 ≤ 90 := by omega
    refine bX4_findThird_11 (fun c => absurd ((lI_lt (b := 1) ⟨by omega, by omega⟩ ⟨by omega, by omega⟩).mp c) (by omega)) (fun _ => ?_)
    refine bX4_findThird_17 (fun c => absurd ((lI_lt (b := 1) ⟨by omega, by omega⟩ ⟨by omega, by omega⟩).mp c) (by omega)) (fun _ => ?_)
    have back : ∀ Jx, agM J Jx → ftE (J 4 1) (fun e g k => isW 3 (J 5) (lI k) (lI g) 1 (lI e)) d (e + 1) = ftE (J 4 1) (fun e g k => isW 3 (J 5) (lI k) (lI g) 1 (lI e)) d e → Sat (EC l D aI aL ad) M_X4_findThird P 60 [(0, .ref (ad 4)), (1, .long (lI d)), (3, .long (lI ((e : Int) + 1)))] [] I Jx := by
      intro Jx hx ee
      refine bX4_findThird_60 (v63 := lI (e : Int)) (by rw [show (1 : Int64) = lI 1 from rfl, lI_sub]; congr 1; omega) (ih Jx (by omega) hx (fun Jy e' g k a b => ks Jy e' g k a (ee.trans b)) (fun a => kn (ee.trans a)))
    refine bX4_findThird_23 (nz2 hd1 hd2) (fun c => ?_) (fun c => ?_)
    · have c : ¬ rm (lI ((e : Int) + 1)) (lI d * lI d) = 0 := c
      exact back Jc hJ (by rw [ftE, if_neg (fun q => c q.1)])
    have c : rm (lI ((e : Int) + 1)) (lI d * lI d) = 0 := c
    refine bX4_findThird_33 (nz4 hd1 hd2 h1 h2) (fun c2 => ?_) (fun c2 => ?_)
    · rw [hJ 4 (by decide)] at c2
      have c2 : ¬ rm (J 4 1) (lI d * lI d * lI ((e : Int) + 1) * lI ((e : Int) + 1)) = 0 := c2
      exact back Jc hJ (by rw [ftE, if_neg (fun q => c2 q.2)])
    rw [hJ 4 (by decide)] at c2
    have c2 : rm (J 4 1) (lI d * lI d * lI ((e : Int) + 1) * lI ((e : Int) + 1)) = 0 := c2
    refine bX4_findThird_50 (v_X4_68 dX4_findThird_53 rfl ⟨rfl, rfl, Nat.le_of_ble_eq_true rfl, Nat.le_of_ble_eq_true rfl⟩ (c_findThirdBy (ne := e + 1) hd (by omega) hd1 hd2 h1 h2) rfl rfl (Nat.le_of_ble_eq_true rfl) (fun r I1 J1 hp => ?_))
    obtain ⟨rfl, hp⟩ := hp
    rw [hJ 5 (by decide)] at hp
    cases hq : ftL (fun g k => isW 3 (J 5) (lI k) (lI g) 1 (lI ((e : Int) + 1))) d ((e : Int) + 1) (e + 1) 91 0 with
    | none =>
      rw [hq] at hp
      obtain ⟨rfl, hx⟩ := hp
      refine bX4_findThird_56 (fun _ => back J1 (hJ.tr hx) ?_) (fun c3 => absurd rfl c3)
      rw [ftE, if_pos ⟨c, c2⟩, hq]
    | some gk =>
      obtain ⟨g, k⟩ := gk
      rw [hq] at hp
      obtain ⟨rfl, Jx, hx, rfl⟩ := hp
      refine bX4_findThird_56 (fun c3 => absurd c3 (by decide)) (fun _ => bX4_findThird_59 (ks Jx _ g k (hJ.tr hx) ?_))
      rw [ftE, if_pos ⟨c, c2⟩, hq]
def ftJ (J : sa_J) (d : Int) (J1 : sa_J) : Prop := match ftE (J 4 1) (fun e g k => isW 3 (J 5) (lI k) (lI g) 1 (lI e)) d 90 with
  | some (e, g, k) => ∃ Jx, agM J Jx ∧ J1 = sa_uJ (sa_uJ (sa_uJ Jx 6 6 (lI k)) 6 7 (lI g)) 7 2 (lI e)
  | none => agM J J1
theorem c_findThird (hd : I 4 0 = nI 3) {d : Int} (hJ : J 7 1 = lI d) (hd1 : 1 ≤ d) (hd2 : d ≤ 90) : Con (EC l D aI aL ad) M_X4_findThird yX4_findThird [.ref (ad 4)] I J (fun r I1 J1 => r = none ∧ I1 = I ∧ ftJ J d J1) := by
  refine Con.of (by decide +kernel) rfl (Nat.le_of_ble_eq_true rfl) ?_
  refine bX4_findThird_0 (v10 := lI ((90 : Nat) : Int)) hJ rfl (ft_e hd hd1 hd2 90 J (by decide) (fun _ _ => rfl) (fun Jx e g k a b => ⟨rfl, rfl, ?_⟩) (fun a Jx hx => ⟨rfl, rfl, ?_⟩))
  · unfold ftJ; rw [b]; exact ⟨Jx, a, rfl⟩
  · unfold ftJ; rw [a]; exact hx
end FT
