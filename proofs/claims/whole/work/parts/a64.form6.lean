/-- the reference's marks -/
def rngZ (n : Nat) : List Int := (List.range n).map (fun i : Nat => (i : Int))
def MR (D : Int) : List Int := if 0 < D then (MZ D).1 else rngZ (LF D).length
def rdyR (D : Int) (I : sa_I) (J : sa_J) : Prop := hoR (LF D) I ∧ mkM 24 (MR D) I ∧ (0 < D → J 0 41 = lI (rtZ D))
def fcR (D : Int) (I : sa_I) (J : sa_J) : Prop := I 0 36 < 0 ∨ rdyR D I J
theorem hoR.keep {L : List F3} {I I1 : sa_I} (h : hoR L I) (h0 : I1 0 36 = I 0 36) (h1 : I1 21 = I 21) (h2 : I1 22 = I 22) (h3 : I1 23 = I 23) : hoR L I1 := ⟨by rw [h0]; exact h.1, fun k f hf => by rw [h1, h2, h3]; exact h.2 k f hf⟩
section FT
variable {l : Launch} {DD : va_G} {aI aL : ClassId} {ad : Nat → Nat} {P : sa_P} {I : sa_I} {J : sa_J}
theorem ffm_in {D a z s : Int} (hD : DOK D) (ba : bd a 100) (bz : bd z 99) (hz : (0 < D ∧ z = rtZ D ∧ J 0 41 = lI (rtZ D)) ∨ (D < 0 ∧ z = a)) {I0 : sa_I} (m10 : J 0 10 = lI D) : ∀ (n : Nat) (b : Int) (A : List F3) (I : sa_I), b + n = z + 1 → -99 ≤ b → (0 < D → 1 ≤ b) → hoR A I → (A ++ fB D a b n).length < 160 → lfR I0 I → (∀ I1, hoR (A ++ fB D a b n) I1 → lfR I0 I1 → Sat (ER l DD aI aL ad) M_X7_findForms P 180 [(0, .ref (ad 0)), (1, .long (lI s)), (3, .long (lI a))] [] I1 J) → Sat (ER l DD aI aL ad) M_X7_findForms P 101 [(0, .ref (ad 0)), (1, .long (lI s)), (3, .long (lI a)), (5, .long (lI b))] [] I J := by
  have z1 := bz.1
  have z2 := bz.2
  have gz := bd_rg bz (by decide)
  have gD := bd_rg hD.bd (by decide)
  have hr := rt_of hD
  have nz : D ≠ 0 := fun q => hD.nsq 0 (by rw [q]; rfl)
  have top : ∀ {b : Int} {I : sa_I}, Sat (ER l DD aI aL ad) M_X7_findForms P 120 [(0, .ref (ad 0)), (1, .long (lI s)), (3, .long (lI a)), (5, .long (lI b))] [.long (lI z), .long (lI b)] I J → Sat (ER l DD aI aL ad) M_X7_findForms P 101 [(0, .ref (ad 0)), (1, .long (lI s)), (3, .long (lI a)), (5, .long (lI b))] [] I J := by
    intro b I h
    rcases hz with ⟨c, e, m41⟩ | ⟨c, e⟩
    · refine bX7_findForms_101 (fun q => absurd q (by rw [m10, show (0 : Int64) = lI 0 from rfl, lI_le gD ⟨by omega, by omega⟩]; omega)) (fun _ => bX7_findForms_112 ?_)
      rw [m41, ← e]; exact h
    · refine bX7_findForms_101 (fun _ => bX7_findForms_119 ?_) (fun q => absurd (by rw [m10, show (0 : Int64) = lI 0 from rfl, lI_le gD ⟨by omega, by omega⟩]; omega) q)
      rw [← e]; rw [← e] at h; exact h
  intro n
  induction n with
  | zero =>
    intro b A I e hb hb1 hA hl fI kk
    rw [fB, List.append_nil] at kk
    exact top (bX7_findForms_120 (fun _ => kk I hA fI) (fun c => absurd ((lI_lt gz ⟨by omega, by omega⟩).mpr (by omega)) c))
  | succ n ih =>
    intro b A I e hb hb1 hA hl fI kk
    have bb : bd b 100 := ⟨by omega, by omega⟩
    have gb := bd_rg bb (by decide)
    have ga := bd_rg ba (by decide)
    rw [fB, ← List.append_assoc] at kk hl
    have hl2 : A.length < 160 := by rw [List.length_append, List.length_append] at hl; omega
    have nx : ∀ {I1 : sa_I}, hoR (A ++ (if okF D a b then [frm D a b] else [])) I1 → lfR I0 I1 → Sat (ER l DD aI aL ad) M_X7_findForms P 171 [(0, .ref (ad 0)), (1, .long (lI s)), (3, .long (lI a)), (5, .long (lI b))] [] I1 J := fun h1 h2 =>
      bX7_findForms_171 (lI_add b 1) (ih (b + 1) _ _ (by omega) (by omega) (fun q => by have := hb1 q; omega) h1 hl h2 kk)
    have no : okF D a b = false → Sat (ER l DD aI aL ad) M_X7_findForms P 171 [(0, .ref (ad 0)), (1, .long (lI s)), (3, .long (lI a)), (5, .long (lI b))] [] I J := fun h => nx (by rw [h, if_neg (by decide), List.append_nil]; exact hA) fI
    refine top (bX7_findForms_120 (fun c => absurd ((lI_lt gz gb).mp c) (by omega)) (fun _ => ?_))
    refine bX7_findForms_124 (fun c => no ?_) (fun c => ?_)
    · have a0 : a = 0 := (lI_eq ga (b := 0) ⟨by omega, by omega⟩).mp c
      unfold okF; rw [a0]; rfl
    have a0 : a ≠ 0 := fun q => c (by rw [q]; rfl)
    have bx : bd (b * b - D) 20000 := bd_mono (bd_sub (bd_mul bb bb) hD.bd) (by decide)
    have gx := bd_rg bx (by decide)
    have b4 : bd (4 * a) 400 := bd_mul (A := 4) ⟨by decide, by decide⟩ ba
    have g4 := bd_rg b4 (by decide)
    have e4 : (4 : Int64) * lI a = lI (4 * a) := by rw [show (4 : Int64) = lI 4 from rfl, lI_mul]
    have z4 : ¬ (4 : Int64) * lI a = 0 := by rw [e4]; exact lI_ne0 g4 (by omega)
    have ez : lI b * lI b - J 0 10 = lI (b * b - D) := by rw [m10, lI_mul, lI_sub]
    refine bX7_findForms_130 z4 (fun c => no ?_) (fun c => bX7_findForms_151 ?_)
    · rw [ez, e4, lI_remS gx g4] at c
      have h0 : ¬ (b * b - D).tmod (4 * a) = 0 := fun q => c (by rw [q]; rfl)
      unfold okF; simp only [h0, decide_false, Bool.and_false, Bool.false_and]
    rw [ez, e4, lI_remS gx g4] at c
    have h0 : (b * b - D).tmod (4 * a) = 0 := by
      have bm : bd ((b * b - D).tmod (4 * a)) 20000 := by
        have : ((b * b - D).tmod (4 * a)).natAbs ≤ (b * b - D).natAbs := by rw [Int.natAbs_tmod]; exact Nat.mod_le _ _
        exact ⟨by have := bx.1; have := bx.2; omega, by have := bx.1; have := bx.2; omega⟩
      exact (lI_eq (bd_rg bm (by decide)) (b := 0) ⟨by omega, by omega⟩).mp c
    have ok : okF D a b = rdB D a b ((b * b - D).tdiv (4 * a)) := by
      unfold okF; simp only [h0, a0, decide_true, decide_false, Bool.not_false, Bool.true_and]
    have hp : D < 0 ∨ (0 < D ∧ 0 < b ∧ b * b < D) := by
      rcases hz with ⟨q, e', _⟩ | ⟨q, _⟩
      · have b1 := hb1 q
        have m : b * b ≤ rtZ D * rtZ D := Int.mul_le_mul (by omega) (by omega) (by omega) (by omega)
        have nn := hD.nsq b
        have := hr.1
        exact Or.inr ⟨q, by omega, by omega⟩
      · exact Or.inl q
    refine v_X7_334 dX7_findForms_155 rfl ⟨rfl, rfl, Nat.le_of_ble_eq_true rfl, Nat.le_of_ble_eq_true rfl⟩ (c_isReduced7 hD.bd (bd_mono ba (by decide)) (bd_mono bb (by decide)) a0 hp m10) rfl rfl (Nat.le_of_ble_eq_true rfl) (fun r I1 J1 hq => ?_)
    obtain ⟨e1, e2, hbb⟩ := hq
    obtain rfl := e1.symm
    obtain rfl := e2.symm
    rcases hbb with ⟨hq, rfl⟩ | ⟨hq, rfl⟩
    rotate_left
    · refine bX7_findForms_158 (fun c => absurd rfl c) (fun _ => bX7_findForms_161 (no ?_))
      rw [ok]; simpa using hq
    refine bX7_findForms_158 (fun _ => bX7_findForms_164 ?_) (fun c => absurd c (by decide))
    refine v_X7_338 dX7_findForms_168 rfl ⟨rfl, rfl, Nat.le_of_ble_eq_true rfl, Nat.le_of_ble_eq_true rfl⟩ (c_holdsForm hD.bd ba bb a0 hA (by omega) m10) rfl rfl (Nat.le_of_ble_eq_true rfl) (fun r I1 J1 hw => ?_)
    obtain ⟨rfl, h1, h2, e2⟩ := hw
    obtain rfl := e2.symm
    exact nx (by rw [ok, hq, if_pos rfl]; exact h1) (fI.tr h2)
theorem ffm_out {D : Int} (hD : DOK D) (hz : 0 < D → J 0 41 = lI (rtZ D)) {I0 : sa_I} (m10 : J 0 10 = lI D) : ∀ (n : Nat) (a : Int) (A : List F3) (I : sa_I), a + n = rtZ D + 1 → -34 ≤ a → (D < 0 → 1 ≤ a) → hoR A I → (A ++ fA D (rtZ D) a n).length < 160 → lfR I0 I → (∀ I1, hoR (A ++ fA D (rtZ D) a n) I1 → lfR I0 I1 → Sat (ER l DD aI aL ad) M_X7_findForms P 187 [(0, .ref (ad 0))] [] I1 J) → Sat (ER l DD aI aL ad) M_X7_findForms P 78 [(0, .ref (ad 0)), (1, .long (lI (rtZ D))), (3, .long (lI a))] [] I J := by
  have bs := isq_le hD.bd
  have s1 := bs.1
  have s2 := bs.2
  have hr := rt_of hD
  have gs := bd_rg bs (by decide)
  have gD := bd_rg hD.bd (by decide)
  have nz : D ≠ 0 := fun q => hD.nsq 0 (by rw [q]; rfl)
  intro n
  induction n with
  | zero =>
    intro a A I e ha hneg hA hl fI kk
    rw [fA, List.append_nil] at kk
    exact bX7_findForms_78 (fun _ => kk I hA fI) (fun c => absurd ((lI_lt gs ⟨by omega, by omega⟩).mpr (by omega)) c)
  | succ n ih =>
    intro a A I e ha hneg hA hl fI kk
    have ba : bd a 99 := ⟨by omega, by omega⟩
    have ga := bd_rg ba (by decide)
    rw [fA, ← List.append_assoc] at kk hl
    have nx : ∀ I1, hoR (A ++ fB D a (if 0 < D then 1 else -a) (if 0 < D then (rtZ D).toNat else (2 * a + 1).toNat)) I1 → lfR I0 I1 → Sat (ER l DD aI aL ad) M_X7_findForms P 180 [(0, .ref (ad 0)), (1, .long (lI (rtZ D))), (3, .long (lI a))] [] I1 J := by
      intro I1 h1 h2
      exact bX7_findForms_180 (lI_add a 1) (ih (a + 1) _ I1 (by omega) (by omega) (fun q => by have := hneg q; omega) h1 hl h2 kk)
    have hl3 : (A ++ fB D a (if 0 < D then 1 else -a) (if 0 < D then (rtZ D).toNat else (2 * a + 1).toNat)).length < 160 := by rw [List.length_append] at hl; omega
    refine bX7_findForms_78 (fun c => absurd ((lI_lt gs ga).mp c) (by omega)) (fun _ => ?_)
    by_cases c : 0 < D
    · refine bX7_findForms_84 (fun q => absurd q (by rw [m10, show (0 : Int64) = lI 0 from rfl, lI_le gD ⟨by omega, by omega⟩]; omega)) (fun _ => bX7_findForms_93 (bX7_findForms_99 ?_))
      rw [if_pos c, if_pos c] at nx hl3
      exact ffm_in hD (bd_mono ba (by decide)) (bd_mono bs (by decide)) (Or.inl ⟨c, rfl, hz c⟩) m10 (rtZ D).toNat 1 A I (by omega) (by omega) (fun _ => by omega) hA hl3 fI nx
    · have dn : D < 0 := by omega
      have a1 := hneg dn
      refine bX7_findForms_84 (fun _ => bX7_findForms_97 (bX7_findForms_99 ?_)) (fun q => absurd (by rw [m10, show (0 : Int64) = lI 0 from rfl, lI_le gD ⟨by omega, by omega⟩]; omega) q)
      rw [lI_neg]
      rw [if_neg c, if_neg c] at nx hl3
      exact ffm_in hD (bd_mono ba (by decide)) ba (Or.inr ⟨dn, rfl⟩) m10 (2 * a + 1).toNat (-a) A I (by omega) (by omega) (fun q => absurd q c) hA hl3 fI nx
/-- marks begun -/
def beg (D : Int) (i : Nat) : Int := if 0 < D then -1 else (i : Int)
theorem ffm_beg {D : Int} (hD : bd D 1200) {L : List F3} (h160 : L.length < 160) {I0 : sa_I} (ho : hoR L I0) (m10 : J 0 10 = lI D) (kk : ∀ I1, (∀ j, j < L.length → I1 24 j = iI (beg D j)) → (∀ q, q ≠ 24 → I1 q = I0 q) → Sat (ER l DD aI aL ad) M_X7_findForms P 223 [(0, .ref (ad 0))] [] I1 J) : ∀ (r i : Nat) (I : sa_I), i + r = L.length → (∀ j, j < i → I 24 j = iI (beg D j)) → (∀ q, q ≠ 24 → I q = I0 q) → Sat (ER l DD aI aL ad) M_X7_findForms P 189 [(0, .ref (ad 0)), (3, .int (nI i))] [] I J := by
  have gD := bd_rg hD (by decide)
  intro r
  induction r with
  | zero =>
    intro i I e h f
    have ei : i = L.length := by omega
    subst ei
    exact bX7_findForms_189 (fun _ => kk I h f) (fun q => absurd (by rw [f 0 (by decide), ho.1, nJ_le (by omega) (by omega)]; omega) q)
  | succ r ih =>
    intro i I e h f
    have go : ∀ {v : Int32}, v = iI (beg D i) → Sat (ER l DD aI aL ad) M_X7_findForms P 216 [(0, .ref (ad 0)), (3, .int (nI i))] [.int v, .int (nI i), .ref (ad 24)] I J := by
      intro v hv
      refine bX7_findForms_216 (s1 := i) (v217 := nI (i + 1)) (by omega) (nI_addE i 1) (ih (i + 1) _ (by omega) (fun j hj => ?_) (fun q hq => by rw [sa_uI_ne hq]; exact f q hq))
      by_cases c : j = i
      · subst c; rw [sa_uI_at]; exact hv
      · rw [sa_uI_off c]; exact h j (by omega)
    refine bX7_findForms_189 (fun q => absurd q (by rw [f 0 (by decide), ho.1, nJ_le (by omega) (by omega)]; omega)) (fun _ => ?_)
    refine bX7_findForms_197 (fun q => bX7_findForms_215 (go ?_)) (fun q => bX7_findForms_211 (go ?_))
    · rw [m10, show (0 : Int64) = lI 0 from rfl, lI_le gD ⟨by omega, by omega⟩] at q
      unfold beg; rw [if_neg (by omega)]; rfl
    · rw [m10, show (0 : Int64) = lI 0 from rfl, lI_le gD ⟨by omega, by omega⟩] at q
      unfold beg; rw [if_pos (by omega)]; rfl
theorem ffm_walk {D : Int} (hD : DOK D) {L : List F3} (hL : LOK D L) (hp : 0 < D) {k : Nat} (hk : k < 160) {I0 : sa_I} {J0 : sa_J} (m10 : J0 0 10 = lI D) (m41 : J0 0 41 = lI (rtZ D)) (ho : hoR L I0) : ∀ (f j : Nat) (m : List Int) (I : sa_I) (J : sa_J), ngM m < f → j < L.length → m.length = L.length → mkRg m → mkM 24 m I → (∀ q, q ≠ 24 → I q = I0 q) → nfr J0 J → (∀ I1 J1, mkM 24 (mkW (nxi D L) k f m j) I1 → (∀ q, q ≠ 24 → I1 q = I0 q) → nfr J0 J1 → Sat (ER l DD aI aL ad) M_X7_findForms P 299 [(0, .ref (ad 0)), (3, .int (nI k))] [] I1 J1) → Sat (ER l DD aI aL ad) M_X7_findForms P 236 [(0, .ref (ad 0)), (3, .int (nI k)), (4, .int (nI j))] [] I J := by
  have h160 := hL.1
  intro f
  induction f with
  | zero => intro j m I J hn; omega
  | succ f ih =>
    intro j m I J hn jl hl hr hm fI fJ kk
    obtain ⟨g, hg⟩ : ∃ g, L[j]? = some g := ⟨_, List.getElem?_eq_getElem jl⟩
    have hv := mkM_get hm (j := j) (by omega)
    have hb := mkRg_get hr (j := j) (by omega)
    have gi : rgi (m.getD j 0) := ⟨by omega, by omega⟩
    refine bX7_findForms_236 (j240 := j) rfl (by omega) (fun c => ?_) (fun c => ?_)
    · rw [hv, show (0 : Int32) = iI 0 from rfl, iI_le ⟨by omega, by omega⟩ gi] at c
      refine kk I J ?_ fI fJ
      rw [mkW, if_neg (by omega)]; exact hm
    rw [hv, show (0 : Int32) = iI 0 from rfl, iI_le ⟨by omega, by omega⟩ gi] at c
    rw [mkW, if_pos (by omega)] at kk
    have hgL := hL.2.1 g (List.mem_of_getElem? hg)
    have fI' : ∀ q, q ≠ 24 → sa_uI I 24 j (nI k) q = I0 q := fun q h => by rw [sa_uI_ne h]; exact fI q h
    have ho' : hoR L (sa_uI I 24 j (nI k)) := ho.keep (by rw [fI' 0 (by decide)]) (fI' 21 (by decide)) (fI' 22 (by decide)) (fI' 23 (by decide))
    obtain ⟨n1, n2, n3⟩ := ho'.2 j g hg
    have cv : ∀ {z : Int}, bd z 1000000 → (iI z).toInt64 = lI z := fun h => iI_lI ⟨by have := h.1; omega, by have := h.2; omega⟩
    refine bX7_findForms_246 (j250 := j) (j259 := j) (j267 := j) (j275 := j) rfl (by omega) rfl (by omega) rfl (by omega) rfl (by omega) ?_
    rw [n1, n2, n3, cv hgL.2.1, cv hgL.2.2.1, cv hgL.2.2.2]
    refine v_X7_342 dX7_findForms_279 rfl ⟨rfl, rfl, Nat.le_of_ble_eq_true rfl, Nat.le_of_ble_eq_true rfl⟩ (c_follows hD.bd (bdF_mono hgL.2 (by decide)) hgL.1.2.2 (by rw [fJ.2 10 (by decide) (by decide) (by decide)]; exact m10) (by rw [fJ.2 41 (by decide) (by decide) (by decide)]; exact m41)) rfl rfl (Nat.le_of_ble_eq_true rfl) (fun r I1 J1 hq => ?_)
    obtain ⟨rfl, e1, ns, f1⟩ := hq
    obtain rfl := e1.symm
    obtain ⟨x1, x2⟩ := nxi_get hD (fun f hf => (hL.2.1 f hf).1) (hL.2.2 hp) hg
    have hnL := hL.2.1 _ (List.mem_of_getElem? x1)
    refine bX7_findForms_282 ?_
    rw [ns.1, ns.2.1]
    refine v_X7_351 dX7_findForms_291 rfl ⟨rfl, rfl, Nat.le_of_ble_eq_true rfl, Nat.le_of_ble_eq_true rfl⟩ (c_find7 hL.bdL ho' (bd_mono hnL.2.1 (by decide)) (bd_mono hnL.2.2.1 (by decide))) rfl rfl (Nat.le_of_ble_eq_true rfl) (fun r I2 J2 hq => ?_)
    obtain ⟨rfl, e1, e2⟩ := hq
    obtain rfl := e1.symm
    obtain rfl := e2.symm
    rw [x2, show iI ((nxi D L j : Nat) : Int) = nI (nxi D L j) from rfl]
    have nl : nxi D L j < L.length := by
      rcases Nat.lt_or_ge (nxi D L j) L.length with c | c
      · exact c
      · rw [List.getElem?_eq_none c] at x1; exact absurd x1 (by simp)
    refine bX7_findForms_294 (ih (nxi D L j) (m.set j (k : Int)) _ _ ?_ nl (by rw [List.length_set]; exact hl) (mkRg_set hr hk) (mkM_set hm (by omega)) fI' (fJ.tr f1) kk)
    have := ngM_set (i := k) m j (by omega)
    omega
theorem ffm_all {D : Int} (hD : DOK D) {L : List F3} (hL : LOK D L) {I0 : sa_I} {J0 : sa_J} (m10 : J0 0 10 = lI D) (m41 : 0 < D → J0 0 41 = lI (rtZ D)) (ho : hoR L I0) : ∀ (r i c : Nat) (m : List Int) (I : sa_I) (J : sa_J), i + r = L.length → m.length = L.length → mkRg m → (¬ 0 < D → ∀ v ∈ m, 0 ≤ v) → mkM 24 m I → (∀ q, q ≠ 24 → I q = I0 q) → nfr J0 J → (∀ I1 J1, mkM 24 (mkL (nxi D L) r i m c).1 I1 → (∀ q, q ≠ 24 → I1 q = I0 q) → nfr J0 J1 → P none I1 J1) → Sat (ER l DD aI aL ad) M_X7_findForms P 225 [(0, .ref (ad 0)), (3, .int (nI i))] [] I J := by
  have h160 := hL.1
  intro r
  induction r with
  | zero =>
    intro i c m I J e hl hr hneg hm fI fJ kk
    exact bX7_findForms_225 (fun _ => bX7_findForms_305 (kk I J hm fI fJ)) (fun q => absurd (by rw [fI 0 (by decide), ho.1, nJ_le (by omega) (by omega)]; omega) q)
  | succ r ih =>
    intro i c m I J e hl hr hneg hm fI fJ kk
    refine bX7_findForms_225 (fun q => absurd q (by rw [fI 0 (by decide), ho.1, nJ_le (by omega) (by omega)]; omega)) (fun _ => bX7_findForms_233 ?_)
    have hv := mkM_get hm (j := i) (by omega)
    have hb := mkRg_get hr (j := i) (by omega)
    have gi : rgi (m.getD i 0) := ⟨by omega, by omega⟩
    by_cases c0 : m.getD i 0 < 0
    · have hpos : 0 < D := by
        refine Classical.byContradiction (fun q => ?_)
        have e2 : m[i]? = some (m.getD i 0) := by rw [List.getD_eq_getElem?_getD, List.getElem?_eq_getElem (by omega : i < m.length)]; rfl
        have := hneg q _ (List.mem_of_getElem? e2)
        omega
      rw [mkL, if_pos c0] at kk
      refine ffm_walk hD hL hpos (k := i) (by omega) m10 (m41 hpos) ho 161 i m I J (by have : ngM m ≤ m.length := List.countP_le_length; omega) (by omega) hl hr hm fI fJ (fun I1 J1 h1 h2 h3 => ?_)
      exact bX7_findForms_299 (v299 := nI (i + 1)) (nI_addE i 1) (ih (i + 1) (c + 1) _ I1 J1 (by omega) (by rw [mkW_len]; exact hl) (mkW_R _ (by omega) _ _ _ hr) (fun q => absurd hpos q) h1 h2 h3 kk)
    · rw [mkL, if_neg c0] at kk
      refine bX7_findForms_236 (j240 := i) rfl (by omega) (fun _ => ?_) (fun q => absurd (by rw [hv, show (0 : Int32) = iI 0 from rfl, iI_le ⟨by omega, by omega⟩ gi]; omega) q)
      exact bX7_findForms_299 (v299 := nI (i + 1)) (nI_addE i 1) (ih (i + 1) c m I J (by omega) hl hr hneg hm fI fJ kk)
end FT
