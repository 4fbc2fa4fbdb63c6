/-! cycles -/
theorem fdF_spec (a b : Int) : ∀ (L : List F3) (k : Nat), fdF a b k L = -1 ∨ ∃ i f, L[i]? = some f ∧ f.1 = a ∧ f.2.1 = b ∧ fdF a b k L = ((k + i : Nat) : Int) := by
  intro L
  induction L with
  | nil => intro k; exact Or.inl rfl
  | cons f L ih =>
    intro k
    by_cases c : f.1 = a ∧ f.2.1 = b
    · exact Or.inr ⟨0, f, rfl, c.1, c.2, by rw [fdF, if_pos c]; rfl⟩
    · rw [fdF, if_neg c]
      rcases ih (k + 1) with h | ⟨i, g, h1, h2, h3, h4⟩
      · exact Or.inl h
      · exact Or.inr ⟨i + 1, g, by simpa using h1, h2, h3, by rw [h4]; congr 1; omega⟩
def nxi (D : Int) (L : List F3) (j : Nat) : Nat := match L[j]? with
  | some f => (fdF (nxF D (rtZ D) f).1 (nxF D (rtZ D) f).2.1 0 L).toNat
  | none => 0
/-- the next of each of the list is in the list -/
def Cld (D : Int) (L : List F3) : Prop := ∀ f ∈ L, 0 ≤ fdF (nxF D (rtZ D) f).1 (nxF D (rtZ D) f).2.1 0 L
theorem FI_uniq {D : Int} {f g : F3} (hf : FI D f) (hg : FI D g) (h1 : f.1 = g.1) (h2 : f.2.1 = g.2.1) : f = g := by
  obtain ⟨a, b, c⟩ := f
  obtain ⟨a', b', c'⟩ := g
  dsimp only at h1 h2
  subst h1; subst h2
  have e1 : b * b - 4 * a * c = D := hf.1
  have e2 : b * b - 4 * a * c' = D := hg.1
  have a0 : a ≠ 0 := hf.2.1
  have : 4 * a * c = 4 * a * c' := by omega
  rw [Int.eq_of_mul_eq_mul_left (by omega) this]
theorem nxi_get {D : Int} (hD : DOK D) {L : List F3} (hL : ∀ f ∈ L, FI D f) (hc : Cld D L) {j : Nat} {f : F3} (hj : L[j]? = some f) : L[nxi D L j]? = some (nxF D (rtZ D) f) ∧ fdF (nxF D (rtZ D) f).1 (nxF D (rtZ D) f).2.1 0 L = (nxi D L j : Int) := by
  have hm := List.mem_of_getElem? hj
  have h0 := hc f hm
  have e : nxi D L j = (fdF (nxF D (rtZ D) f).1 (nxF D (rtZ D) f).2.1 0 L).toNat := by unfold nxi; rw [hj]
  rcases fdF_spec (nxF D (rtZ D) f).1 (nxF D (rtZ D) f).2.1 L 0 with h | ⟨i, g, h1, h2, h3, h4⟩
  · rw [h] at h0; exact absurd h0 (by decide)
  · rw [Nat.zero_add] at h4
    have ei : nxi D L j = i := by rw [e, h4]; rfl
    rw [ei]
    refine ⟨?_, h4⟩
    rw [h1, FI_uniq (hL g (List.mem_of_getElem? h1)) (nxF_FI hD (hL f hm) (rtZ D)) h2 h3]
def mkW (nx : Nat → Nat) (i : Nat) : Nat → List Int → Nat → List Int
  | 0, m, _ => m
  | f + 1, m, j => if m.getD j 0 < 0 then mkW nx i f (m.set j (i : Int)) (nx j) else m
def ngM (m : List Int) : Nat := m.countP (fun v => decide (v < 0))
def mkL (nx : Nat → Nat) : Nat → Nat → List Int → Nat → List Int × Nat
  | 0, _, m, c => (m, c)
  | r + 1, i, m, c => if m.getD i 0 < 0 then mkL nx r (i + 1) (mkW nx i 161 m i) (c + 1) else mkL nx r (i + 1) m c
theorem ngM_set {i : Nat} : ∀ (m : List Int) (j : Nat), m.getD j 0 < 0 → ngM (m.set j (i : Int)) + 1 = ngM m := by
  intro m
  induction m with
  | nil => intro j h; simp at h
  | cons v m ih =>
    intro j h
    cases j with
    | zero =>
      have hv : v < 0 := by simpa using h
      have h1 : ¬ ((i : Int) < 0) := by omega
      simp only [List.set_cons_zero, ngM, List.countP_cons, hv, h1, decide_true, decide_false, if_true]
      simp
    | succ j =>
      have := ih j (by simpa using h)
      simp only [List.set_cons_succ, ngM, List.countP_cons] at this ⊢
      omega
theorem mkW_len (nx : Nat → Nat) (i : Nat) : ∀ (f : Nat) (m : List Int) (j : Nat), (mkW nx i f m j).length = m.length := by
  intro f
  induction f with
  | zero => intro m j; rfl
  | succ f ih =>
    intro m j
    rw [mkW]
    by_cases c : m.getD j 0 < 0
    · rw [if_pos c, ih, List.length_set]
    · rw [if_neg c]
def mkRg (m : List Int) : Prop := ∀ v ∈ m, -1 ≤ v ∧ v < 160
theorem mkRg_set {m : List Int} (h : mkRg m) {j i : Nat} (hi : i < 160) : mkRg (m.set j (i : Int)) := by
  intro v hv
  rcases List.mem_or_eq_of_mem_set hv with q | q
  · exact h v q
  · rw [q]; omega
theorem mkW_R (nx : Nat → Nat) {i : Nat} (hi : i < 160) : ∀ (f : Nat) (m : List Int) (j : Nat), mkRg m → mkRg (mkW nx i f m j) := by
  intro f
  induction f with
  | zero => intro m j h; exact h
  | succ f ih =>
    intro m j h
    rw [mkW]
    by_cases c : m.getD j 0 < 0
    · rw [if_pos c]; exact ih _ _ (mkRg_set h hi)
    · rw [if_neg c]; exact h
/-- marks in memory, cell q -/
def mkM (q : Nat) (m : List Int) (I : sa_I) : Prop := ∀ j v, m[j]? = some v → I q j = iI v
theorem mkM_get {q : Nat} {m : List Int} {I : sa_I} (h : mkM q m I) {j : Nat} (hj : j < m.length) : I q j = iI (m.getD j 0) := by
  have e : m[j]? = some (m.getD j 0) := by rw [List.getD_eq_getElem?_getD, List.getElem?_eq_getElem hj]; rfl
  exact h j _ e
theorem mkRg_get {m : List Int} (h : mkRg m) {j : Nat} (hj : j < m.length) : -1 ≤ m.getD j 0 ∧ m.getD j 0 < 160 := by
  have e : m[j]? = some (m.getD j 0) := by rw [List.getD_eq_getElem?_getD, List.getElem?_eq_getElem hj]; rfl
  exact h _ (List.mem_of_getElem? e)
theorem mkM_set {q : Nat} {m : List Int} {I : sa_I} (h : mkM q m I) {j i : Nat} (hj : j < m.length) : mkM q (m.set j (i : Int)) (sa_uI I q j (nI i)) := by
  intro k v hk
  by_cases c : k = j
  · subst c
    rw [List.getElem?_set_self hj] at hk
    rw [sa_uI_at, ← Option.some.inj hk]; rfl
  · rw [List.getElem?_set_ne (Ne.symm c)] at hk
    rw [sa_uI_off c]; exact h k v hk
theorem hoL.keep {L : List F3} {I I1 : sa_I} (h : hoL L I) (h0 : I1 27 0 = I 27 0) (h28 : I1 28 = I 28) : hoL L I1 := ⟨by rw [h0]; exact h.1, fun k f hf => by rw [h28]; exact h.2 k f hf⟩
def LOK (D : Int) (L : List F3) : Prop := L.length < 160 ∧ (∀ f ∈ L, FI D f ∧ bdF f 1000000) ∧ (0 < D → Cld D L)
theorem LOK.bdL {D : Int} {L : List F3} (h : LOK D L) : bdL L := ⟨by have := h.1; omega, fun f hf => (h.2.1 f hf).2⟩
theorem bdF_mono {f : F3} {A B : Int} (h : bdF f A) (hAB : A ≤ B) : bdF f B := ⟨bd_mono h.1 hAB, bd_mono h.2.1 hAB, bd_mono h.2.2 hAB⟩
theorem DOK.bd {D : Int} (h : DOK D) : bd D 1200 := ⟨by have := h.1; omega, h.2.1⟩
section FQ
variable {l : Launch} {DD : va_G} {aI aL : ClassId} {ad : Nat → Nat} {P : sa_P} {I : sa_I} {J : sa_J}
theorem mkC_loop {D : Int} (hD : DOK D) {L : List F3} (hL : LOK D L) (hp : 0 < D) {k : Nat} (hk : k < 160) {I0 : sa_I} {J0 : sa_J} (ho : hoL L I0) : ∀ (f t j : Nat) (m : List Int) (I : sa_I) (J : sa_J) (g : F3), t + f = 161 → ngM m < f → L[j]? = some g → m.length = L.length → mkRg m → mkM 29 m I → (∀ q, q ≠ 29 → I q = I0 q) → fmS D g J → ffr J0 J → (∀ I1 J1, mkM 29 (mkW (nxi D L) k f m j) I1 → (∀ q, q ≠ 29 → I1 q = I0 q) → ffr J0 J1 → P none I1 J1) → Sat (EC l DD aI aL ad) M_X1_markCycle P 47 [(0, .ref (ad 27)), (1, .int (nI k)), (2, .int (nI j)), (3, .int (nI t))] [] I J := by
  have h160 := hL.1
  intro f
  induction f with
  | zero => intro t j m I J g e hn; omega
  | succ f ih =>
    intro t j m I J g e hn hg hl hr hm fI fm fJ kk
    have jl : j < L.length := by
      rcases Nat.lt_or_ge j L.length with c | c
      · exact c
      · rw [List.getElem?_eq_none c] at hg; exact absurd hg (by simp)
    have hv := mkM_get hm (j := j) (by omega)
    have hb := mkRg_get hr (j := j) (by omega)
    have gi : rgi (m.getD j 0) := ⟨by omega, by omega⟩
    refine bX1_markCycle_47 (fun c => absurd c (by rw [nI_lit 160, nJ_lt (by omega) (by omega)]; omega)) (fun _ => ?_)
    refine bX1_markCycle_54 (fun c => absurd c (by rw [nI_lit 0, nJ_lt (by omega) (by omega)]; omega)) (fun _ => ?_)
    refine bX1_markCycle_58 (j62 := j) rfl (by omega) (fun c => ?_) (fun c => ?_)
    · rw [hv, show (0 : Int32) = iI 0 from rfl, iI_le ⟨by omega, by omega⟩ gi] at c
      refine bX1_markCycle_89 (kk I J ?_ fI fJ)
      rw [mkW, if_neg (by omega)]; exact hm
    rw [hv, show (0 : Int32) = iI 0 from rfl, iI_le ⟨by omega, by omega⟩ gi] at c
    rw [mkW, if_pos (by omega)] at kk
    refine bX1_markCycle_67 (j71 := j) rfl (by omega) ?_
    have hgL := hL.2.1 g (List.mem_of_getElem? hg)
    have fI' : ∀ q, q ≠ 29 → sa_uI I 29 j (nI k) q = I0 q := fun q h => by rw [sa_uI_ne h]; exact fI q h
    refine v_X1_93 dX1_markCycle_75 rfl ⟨rfl, rfl, Nat.le_of_ble_eq_true rfl, Nat.le_of_ble_eq_true rfl⟩ (c_goNext hD.bd (bdF_mono hgL.2 (by decide)) hgL.1.2.2 fm) rfl rfl (Nat.le_of_ble_eq_true rfl) (fun r I1 J1 hq => ?_)
    obtain ⟨rfl, e1, fm1, f1⟩ := hq
    obtain rfl := e1.symm
    obtain ⟨n1, n2⟩ := nxi_get hD (fun f hf => (hL.2.1 f hf).1) (hL.2.2 hp) hg
    have hnL := hL.2.1 _ (List.mem_of_getElem? n1)
    refine bX1_markCycle_78 ?_
    refine v_X1_96 dX1_markCycle_79 rfl ⟨rfl, rfl, Nat.le_of_ble_eq_true rfl, Nat.le_of_ble_eq_true rfl⟩ (c_numberOfForm hL.bdL (ho.keep (by rw [fI' 27 (by decide)]) (by rw [fI' 28 (by decide)])) (bd_mono hnL.2.1 (by decide)) (bd_mono hnL.2.2.1 (by decide)) fm1.2.2.1 fm1.2.2.2.1) rfl rfl (Nat.le_of_ble_eq_true rfl) (fun r I2 J2 hq => ?_)
    obtain ⟨rfl, e1, e2⟩ := hq
    obtain rfl := e1.symm
    obtain rfl := e2.symm
    rw [n2, show iI ((nxi D L j : Nat) : Int) = nI (nxi D L j) from rfl]
    refine bX1_markCycle_82 (v83 := nI (t + 1)) (nI_addE t 1) (ih (t + 1) (nxi D L j) (m.set j (k : Int)) _ _ _ (by omega) ?_ n1 (by rw [List.length_set]; exact hl) (mkRg_set hr hk) (mkM_set hm (by omega)) fI' fm1 (fJ.tr f1) kk)
    have := ngM_set (i := k) m j (by omega)
    omega
theorem c_markCycle {D : Int} (hD : DOK D) {L : List F3} (hL : LOK D L) (hp : 0 < D) {k : Nat} (hk : k < L.length) {m : List Int} (ho : hoL L I) (hl : m.length = L.length) (hr : mkRg m) (hm : mkM 29 m I) (m9 : J 27 9 = lI D) (m10 : J 27 10 = lI (rtZ D)) : Con (EC l DD aI aL ad) M_X1_markCycle yX1_markCycle [.ref (ad 27), .int (nI k)] I J (fun r I1 J1 => r = none ∧ mkM 29 (mkW (nxi D L) k 161 m k) I1 ∧ (∀ q, q ≠ 29 → I1 q = I q) ∧ ffr J J1) := by
  refine Con.of (by decide +kernel) rfl (Nat.le_of_ble_eq_true rfl) ?_
  have h160 := hL.1
  obtain ⟨g, hg⟩ : ∃ g, L[k]? = some g := ⟨_, List.getElem?_eq_getElem hk⟩
  obtain ⟨n1, n2, n3⟩ := ho.2 k g hg
  have hb := (hL.2.1 g (List.mem_of_getElem? hg)).2
  have cv : ∀ {z : Int}, bd z 1000000 → (iI z).toInt64 = lI z := fun h => iI_lI ⟨by have := h.1; omega, by have := h.2; omega⟩
  refine bX1_markCycle_0 (j7 := 3 * k) (v10 := lI g.1) (j22 := 3 * k + 1) (v25 := lI g.2.1) (j37 := 3 * k + 2) (v40 := lI g.2.2) (v46 := nI 0) (by rw [nI_lit 3, nI_mulE]) (by omega) (by rw [nI_lit 3, nI_lit 1, nI_mulE, nI_addE]) (by omega) (by rw [nI_lit 3, nI_lit 2, nI_mulE, nI_addE]) (by omega) (by rw [n1]; exact cv hb.1) (by rw [n2]; exact cv hb.2.1) (by rw [n3]; exact cv hb.2.2) rfl ?_
  refine mkC_loop hD hL hp (k := k) (by omega) ho 161 0 k m _ _ g rfl (by have : ngM m ≤ m.length := List.countP_le_length; omega) hg hl hr hm (fun _ _ => rfl) ⟨?_, ?_, ?_, ?_, ?_⟩ ((ffr.rfl'.u11).u12).u13 (fun I1 J1 a b c => ⟨rfl, a, b, c⟩)
  · rw [sa_uJ_off (by decide), sa_uJ_off (by decide), sa_uJ_off (by decide)]; exact m9
  · rw [sa_uJ_off (by decide), sa_uJ_off (by decide), sa_uJ_off (by decide)]; exact m10
  · rw [sa_uJ_off (by decide), sa_uJ_off (by decide), sa_uJ_at]
  · rw [sa_uJ_off (by decide), sa_uJ_at]
  · exact sa_uJ_at
theorem mks_loop {D : Int} (hD : DOK D) {L : List F3} (hL : LOK D L) (hp : 0 < D) {I0 : sa_I} {J0 : sa_J} (m9 : J0 27 9 = lI D) (m10 : J0 27 10 = lI (rtZ D)) (ho : hoL L I0) : ∀ (r i c : Nat) (m : List Int) (I : sa_I) (J : sa_J), i + r = L.length → c ≤ i → m.length = L.length → mkRg m → mkM 29 m I → I 27 1 = nI c → (∀ q, q ≠ 29 → q ≠ 27 → I q = I0 q) → (∀ t, t ≠ 1 → I 27 t = I0 27 t) → ffr J0 J → (∀ I1 J1, mkM 29 (mkL (nxi D L) r i m c).1 I1 → I1 27 1 = nI (mkL (nxi D L) r i m c).2 → (∀ q, q ≠ 29 → q ≠ 27 → I1 q = I0 q) → (∀ t, t ≠ 1 → I1 27 t = I0 27 t) → ffr J0 J1 → P none I1 J1) → Sat (EC l DD aI aL ad) M_X1_markCycles P 7 [(0, .ref (ad 27)), (1, .int (nI i))] [] I J := by
  have h160 := hL.1
  intro r
  induction r with
  | zero =>
    intro i c m I J e hci hl hr hm h1 fI f27 fJ kk
    refine bX1_markCycles_7 (fun _ => bX1_markCycles_45 (kk I J hm h1 fI f27 fJ)) (fun q => absurd (by rw [f27 0 (by decide), ho.1, nJ_le (by omega) (by omega)]; omega) q)
  | succ r ih =>
    intro i c m I J e hci hl hr hm h1 fI f27 fJ kk
    have hv := mkM_get hm (j := i) (by omega)
    have hb := mkRg_get hr (j := i) (by omega)
    have gi : rgi (m.getD i 0) := ⟨by omega, by omega⟩
    refine bX1_markCycles_7 (fun q => absurd q (by rw [f27 0 (by decide), ho.1, nJ_le (by omega) (by omega)]; omega)) (fun _ => ?_)
    refine bX1_markCycles_15 (j19 := i) rfl (by omega) (fun q => ?_) (fun q => ?_)
    · rw [hv, show (0 : Int32) = iI 0 from rfl, iI_le ⟨by omega, by omega⟩ gi] at q
      rw [mkL, if_neg (by omega)] at kk
      exact bX1_markCycles_39 (v39 := nI (i + 1)) (nI_addE i 1) (ih (i + 1) c m I J (by omega) (by omega) hl hr hm h1 fI f27 fJ kk)
    rw [hv, show (0 : Int32) = iI 0 from rfl, iI_le ⟨by omega, by omega⟩ gi] at q
    rw [mkL, if_pos (by omega)] at kk
    refine bX1_markCycles_24 (v31 := nI (c + 1)) (by rw [h1]; exact nI_addE c 1) ?_
    have ho' : hoL L (sa_uI I 27 1 (nI (c + 1))) := ho.keep (by rw [sa_uI_off (by decide)]; exact f27 0 (by decide)) (by rw [sa_uI_ne (by decide)]; exact fI 28 (by decide) (by decide))
    refine v_X1_89 dX1_markCycles_36 rfl ⟨rfl, rfl, Nat.le_of_ble_eq_true rfl, Nat.le_of_ble_eq_true rfl⟩ (c_markCycle hD hL hp (k := i) (by omega) ho' hl hr (m := m) (fun j v h => by rw [sa_uI_ne (by decide)]; exact hm j v h) (by rw [fJ.2 9 (by decide) (by decide) (by decide)]; exact m9) (by rw [fJ.2 10 (by decide) (by decide) (by decide)]; exact m10)) rfl rfl (Nat.le_of_ble_eq_true rfl) (fun r I1 J1 hq => ?_)
    obtain ⟨rfl, hm1, g1, g2⟩ := hq
    refine bX1_markCycles_39 (v39 := nI (i + 1)) (nI_addE i 1) (ih (i + 1) (c + 1) (mkW (nxi D L) i 161 m i) I1 J1 (by omega) (by omega) (by rw [mkW_len]; exact hl) (mkW_R _ (by omega) _ _ _ hr) hm1 ?_ ?_ ?_ (fJ.tr g2) kk)
    · rw [g1 27 (by decide), sa_uI_at]
    · intro q' a b; rw [g1 q' a, sa_uI_ne b]; exact fI q' a b
    · intro t ht; rw [g1 27 (by decide), sa_uI_off ht]; exact f27 t ht
theorem c_markCycles {D : Int} (hD : DOK D) {L : List F3} (hL : LOK D L) (hp : 0 < D) (ho : hoN L I) (m9 : J 27 9 = lI D) (m10 : J 27 10 = lI (rtZ D)) : Con (EC l DD aI aL ad) M_X1_markCycles yX1_markCycles [.ref (ad 27)] I J (fun r I1 J1 => r = none ∧ mkM 29 (mkL (nxi D L) L.length 0 (List.replicate L.length (-1)) 0).1 I1 ∧ I1 27 1 = nI (mkL (nxi D L) L.length 0 (List.replicate L.length (-1)) 0).2 ∧ (∀ q, q ≠ 29 → q ≠ 27 → I1 q = I q) ∧ (∀ t, t ≠ 1 → I1 27 t = I 27 t) ∧ ffr J J1) := by
  refine Con.of (by decide +kernel) rfl (Nat.le_of_ble_eq_true rfl) ?_
  refine bX1_markCycles_0 (v2 := nI 0) (v6 := nI 0) rfl rfl ?_
  refine mks_loop hD hL hp m9 m10 ho.1 L.length 0 0 (List.replicate L.length (-1)) _ _ (by omega) (Nat.le_refl _) (List.length_replicate) (fun v hv => by rw [List.eq_of_mem_replicate hv]; omega) (fun j v hj => ?_) sa_uI_at (fun q a b => sa_uI_ne b) (fun t ht => sa_uI_off ht) ffr.rfl' (fun I1 J1 a b c d e => ⟨rfl, a, b, c, d, e⟩)
  have hjl : j < L.length := by
    rcases Nat.lt_or_ge j L.length with c | c
    · exact c
    · rw [List.getElem?_eq_none (by rw [List.length_replicate]; exact c)] at hj; exact absurd hj (by simp)
  rw [List.getElem?_replicate, if_pos hjl] at hj
  rw [sa_uI_ne (by decide), ho.2 j hjl, ← Option.some.inj hj]; rfl
end FQ
