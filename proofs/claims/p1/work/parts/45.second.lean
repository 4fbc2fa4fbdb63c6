/-! findSecond: the greatest d up to 90 and the least h with (h + r) by d whole -/
def fsH (W : Int → Bool) : Nat → Int → Option Int
  | 0, _ => none
  | f + 1, h => if W h then some h else fsH W f (h + 1)
def fsD (pd : Int64) (W : Int → Int → Bool) : Nat → Option (Int × Int)
  | 0 => none
  | d + 1 => if rm pd (lI ((d : Int) + 1) * lI ((d : Int) + 1)) = 0 then (match fsH (W ((d : Int) + 1)) (d + 1) 0 with
      | some h => some ((d : Int) + 1, h)
      | none => fsD pd W d) else fsD pd W d
/-- two memories alike but for the matrix -/
def agM (J Jc : sa_J) : Prop := ∀ q, q ≠ 10 → Jc q = J q
theorem agM.tr {J J1 J2 : sa_J} (h : agM J J1) (k : ∀ q, q ≠ 10 → J2 q = J1 q) : agM J J2 := fun q hq => (k q hq).trans (h q hq)
section FS
variable {l : Launch} {D : va_G} {aI aL : ClassId} {ad : Nat → Nat} {P : sa_P} {I : sa_I} {J : sa_J}
theorem fs_in {n : Nat} (hn : n = 2 ∨ n = 3) (hd : I 4 0 = nI n) {d : Int} (h1 : 1 ≤ d) (h2 : d ≤ 90) : ∀ (f : Nat) (h : Int) (Jc : sa_J), h + f = d → 0 ≤ h → agM J Jc →
    (∀ Jx h', agM J Jx → fsH (fun h => isW n (J 5) (lI h) 1 0 (lI d)) f h = some h' → P none I (sa_uJ (sa_uJ Jx 6 3 (lI h')) 7 1 (lI d))) →
    (fsH (fun h => isW n (J 5) (lI h) 1 0 (lI d)) f h = none → ∀ Jx, agM J Jx → Sat (EC l D aI aL ad) M_X4_findSecond P 64 [(0, .ref (ad 4)), (1, .long (lI d))] [] I Jx) →
    Sat (EC l D aI aL ad) M_X4_findSecond P 25 [(0, .ref (ad 4)), (1, .long (lI d)), (3, .long (lI h))] [] I Jc := by
  intro f
  induction f with
  | zero =>
    intro h Jc e0 e1 hJ ks kn
    obtain rfl : h = d := by omega
    exact bX4_findSecond_25 (fun _ => kn rfl Jc hJ) (fun c => absurd ((lI_le ⟨by omega, by omega⟩ ⟨by omega, by omega⟩).mpr (Int.le_refl h)) c)
  | succ f ih =>
    intro h Jc e0 e1 hJ ks kn
    refine bX4_findSecond_25 (fun c => absurd ((lI_le ⟨by omega, by omega⟩ ⟨by omega, by omega⟩).mp c) (by omega)) (fun _ => ?_)
    refine bX4_findSecond_31 (v_X4_64 dX4_findSecond_36 rfl ⟨rfl, rfl, Nat.le_of_ble_eq_true rfl, Nat.le_of_ble_eq_true rfl⟩ (c_isWhole hn hd h1 h2) rfl rfl (Nat.le_of_ble_eq_true rfl) (fun r I1 J1 hp => ?_))
    obtain ⟨rfl, rfl, hf⟩ := hp
    have hJ1 := hJ.tr hf
    rw [hJ 5 (by decide)]
    by_cases hw : isW n (J 5) (lI h) 1 0 (lI d) = true
    · rw [if_pos hw]
      refine bX4_findSecond_39 (fun c => absurd c (by decide)) (fun _ => bX4_findSecond_42 (ks J1 h hJ1 ?_))
      rw [fsH, if_pos hw]
    · rw [if_neg hw]
      have e3 : fsH (fun h => isW n (J 5) (lI h) 1 0 (lI d)) (f + 1) h = fsH (fun h => isW n (J 5) (lI h) 1 0 (lI d)) f (h + 1) := by rw [fsH, if_neg hw]
      refine bX4_findSecond_39 (fun _ => bX4_findSecond_57 (lI_add h 1) (ih (h + 1) J1 (by omega) (by omega) hJ1 (fun Jx h' a b => ks Jx h' a (e3.trans b)) (fun a => kn (e3.trans a)))) (fun c => absurd rfl c)
theorem fs_out {n : Nat} (hn : n = 2 ∨ n = 3) (hd : I 4 0 = nI n) : ∀ (d : Nat) (Jc : sa_J), d ≤ 90 → agM J Jc →
    (∀ Jx d' h', agM J Jx → fsD (J 4 1) (fun d h => isW n (J 5) (lI h) 1 0 (lI d)) d = some (d', h') → P none I (sa_uJ (sa_uJ Jx 6 3 (lI h')) 7 1 (lI d'))) →
    (fsD (J 4 1) (fun d h => isW n (J 5) (lI h) 1 0 (lI d)) d = none → ∀ Jx, agM J Jx → P none I Jx) →
    Sat (EC l D aI aL ad) M_X4_findSecond P 4 [(0, .ref (ad 4)), (1, .long (lI d))] [] I Jc := by
  intro d
  induction d with
  | zero =>
    intro Jc _ hJ ks kn
    exact bX4_findSecond_4 (fun _ => bX4_findSecond_71 (kn rfl Jc hJ)) (fun c => absurd (show lI ((0 : Nat) : Int) < 1 by decide) c)
  | succ d ih =>
    intro Jc hd90 hJ ks kn
    have h1 : 1 ≤ (d : Int) + 1 := by omega
    have h2 : (d : Int) + 1 ≤ 90 := by omega
    refine bX4_findSecond_4 (fun c => absurd ((lI_lt (b := 1) ⟨by omega, by omega⟩ ⟨by omega, by omega⟩).mp c) (by omega)) (fun _ => ?_)
    have back : ∀ Jx, agM J Jx → fsD (J 4 1) (fun d h => isW n (J 5) (lI h) 1 0 (lI d)) (d + 1) = fsD (J 4 1) (fun d h => isW n (J 5) (lI h) 1 0 (lI d)) d → Sat (EC l D aI aL ad) M_X4_findSecond P 64 [(0, .ref (ad 4)), (1, .long (lI ((d : Int) + 1)))] [] I Jx := by
      intro Jx hx e
      refine bX4_findSecond_64 (v67 := lI (d : Int)) (by rw [show (1 : Int64) = lI 1 from rfl, lI_sub]; congr 1; omega) (ih Jx (by omega) hx (fun Jy d' h' a b => ks Jy d' h' a (e.trans b)) (fun a => kn (e.trans a)))
    refine bX4_findSecond_10 (nz2 h1 h2) (fun c => ?_) (fun c => ?_)
    · rw [hJ 4 (by decide)] at c
      have c : ¬ rm (J 4 1) (lI ((d : Int) + 1) * lI ((d : Int) + 1)) = 0 := c
      exact back Jc hJ (by rw [fsD, if_neg c])
    · rw [hJ 4 (by decide)] at c
      have c : rm (J 4 1) (lI ((d : Int) + 1) * lI ((d : Int) + 1)) = 0 := c
      refine bX4_findSecond_23 (v24 := lI 0) rfl (fs_in hn hd h1 h2 (d + 1) 0 Jc (by omega) (by omega) hJ (fun Jx h' a b => ks Jx _ h' a ?_) (fun a Jx hx => back Jx hx ?_))
      · rw [fsD, if_pos c, b]
      · rw [fsD, if_pos c, a]
/-- what findSecond leaves in the memory -/
def fsJ (J : sa_J) (n : Nat) (J1 : sa_J) : Prop := match fsD (J 4 1) (fun d h => isW n (J 5) (lI h) 1 0 (lI d)) 90 with
  | some (d, h) => ∃ Jx, agM J Jx ∧ J1 = sa_uJ (sa_uJ Jx 6 3 (lI h)) 7 1 (lI d)
  | none => agM J J1
theorem c_findSecond {n : Nat} (hn : n = 2 ∨ n = 3) (hd : I 4 0 = nI n) : Con (EC l D aI aL ad) M_X4_findSecond yX4_findSecond [.ref (ad 4)] I J (fun r I1 J1 => r = none ∧ I1 = I ∧ fsJ J n J1) := by
  refine Con.of (by decide +kernel) rfl (Nat.le_of_ble_eq_true rfl) ?_
  refine bX4_findSecond_0 (v3 := lI ((90 : Nat) : Int)) rfl (fs_out hn hd 90 J (by decide) (fun _ _ => rfl) (fun Jx d' h' a b => ⟨rfl, rfl, ?_⟩) (fun a Jx hx => ⟨rfl, rfl, ?_⟩))
  · unfold fsJ; rw [b]; exact ⟨Jx, a, rfl⟩
  · unfold fsJ; rw [a]; exact hx
end FS
