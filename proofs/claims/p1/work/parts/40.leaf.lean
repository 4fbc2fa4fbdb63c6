/-- as the kit's Met.ofW, for a method that no entry of the machine's stands for (Math's own among them) -/
theorem sa_ofWF {l : Launch} {y : MethodName} {ws ws' : List Cond} {rm : Room} {Pc : Array Value → State → Prop} {Qc : Array Value → State → Outcome → State → Prop} {mc ms : Nat} {free : Addr → Prop} {cc : ByteArray} {maxL : Nat} {ret : Option FieldType}
    (hy : plainFor y = true) (hw : ws = Cond.code y cc maxL ret :: ws')
    (body : ∀ p e s m args below meth c s₁, BodyLoose p l y (headSpec ws rm) cc maxL ret e s m args below meth c s₁ → c.maxLocals = maxL → Pc args s →
      W p l e (headSpec ws rm).room s m args below meth c s.heap [] 0 0 (MQ below Qc args s mc ms free) (entryFrame m args maxL)) : Met l y ws rm Pc Qc mc ms free := by
  refine MetFree.of_bodySF (code := cc) (maxLocals := maxL) (ret := ret) hy ?_ ?_
  · intro args s m h hn
    obtain ⟨meth, c, h1, h2, h3, h4, h5, h6, -, -⟩ := Cond.code_spec hn (atoms_spec (ws := ws) h _ (by rw [hw]; exact List.mem_cons_self))
    exact ⟨meth, c, h1, h2, h3, h4, h5, h6⟩
  · intro p e s m args below meth c s₁ B hml hP _
    have hh0 : s₁.heap = s.heap := by rw [B.state]; rfl
    obtain ⟨t, a1, o, b1, b2, b3⟩ := body p e s m args below meth c s₁ B hml hP s₁ hh0 (Stand.of_body B)
    exact ⟨t, o, a1, b1, b2, ⟨b3.1, b3.2⟩⟩
theorem Con.ofF {E : sa_E} {M : sa_M} {P : sa_P} {I : sa_I} {J : sa_J} {y : MethodName} {As : List Value} (hy : plainFor y = true) (ho : M.1 = y.cls) (hn : (lg_sl As).length ≤ M.2.2.1) (h : Sat E M P 0 (lv_args 0 As) [] I J) : Con E M y As I J P := by
  intro sz
  refine sa_ofWF (cc := M.2.1) (maxL := M.2.2.1) (ret := M.2.2.2.1) hy rfl ?_
  intro p e s m args below meth c s₁ B hml hv
  obtain ⟨rfl, hsz, hP, hK, hD0, hN⟩ := hv
  have hts : ∀ w ∈ sa_wl, w.before As.toArray s = true := fun w hw => atoms_spec (ws := .code y M.2.1 M.2.2.1 M.2.2.2.1 :: sa_wl) B.pre w (List.mem_cons_of_mem _ hw)
  have hown : s.vm.findClass M.1 = some m.cls := by rw [ho]; exact findClass_of_methodNamed B.named
  subst hsz
  have hD := hD0.self (sz := s.heap.size)
  have hl := lv_entry As (n := M.2.2.1) hn
  rw [lg_entry_eq]
  exact h p e s m As.toArray below meth c s.heap [] _ (va_A (E.2.2.2.2 I J) s.heap.size) ⟨B.exec, B.bytes, B.returns, hml, hown, hts, B.notSynchronized, hK, hN⟩ hP hD va_S.rf (fun q h => Or.inr h) hl
/-! longs and ints as whole numbers -/
def lI (z : Int) : Int64 := Int64.ofInt z
def iI (z : Int) : Int32 := Int32.ofInt z
def rg (z : Int) : Prop := -9223372036854775808 ≤ z ∧ z < 9223372036854775808
def rgi (z : Int) : Prop := -2147483648 ≤ z ∧ z < 2147483648
theorem lI_toInt {z : Int} (h : rg z) : (lI z).toInt = z := by
  unfold lI; rw [Int64.toInt_ofInt, show Int64.size = 18446744073709551616 from rfl]; exact Int.bmod_eq_of_le (by have := h.1; omega) (by have := h.2; omega)
theorem iI_toInt {z : Int} (h : rgi z) : (iI z).toInt = z := by
  unfold iI; rw [Int32.toInt_ofInt, show Int32.size = 4294967296 from rfl]; exact Int.bmod_eq_of_le (by have := h.1; omega) (by have := h.2; omega)
theorem rg_toInt (x : Int64) : rg x.toInt := ⟨by have := Int64.le_toInt x; omega, by have := Int64.toInt_lt x; omega⟩
theorem rgi_toInt (x : Int32) : rgi x.toInt := ⟨by have := Int32.le_toInt x; omega, by have := Int32.toInt_lt x; omega⟩
theorem lI_of (x : Int64) : ∃ z, rg z ∧ x = lI z := ⟨x.toInt, rg_toInt x, (Int64.ofInt_toInt x).symm⟩
theorem iI_of (x : Int32) : ∃ z, rgi z ∧ x = iI z := ⟨x.toInt, rgi_toInt x, (Int32.ofInt_toInt x).symm⟩
theorem lI_add (a b : Int) : lI a + lI b = lI (a + b) := (Int64.ofInt_add a b).symm
theorem lI_sub (a b : Int) : lI a - lI b = lI (a - b) := (Int64.ofInt_sub a b).symm
theorem lI_mul (a b : Int) : lI a * lI b = lI (a * b) := (Int64.ofInt_mul a b).symm
theorem lI_neg (a : Int) : -lI a = lI (-a) := (Int64.ofInt_neg a).symm
theorem iI_add (a b : Int) : iI a + iI b = iI (a + b) := (Int32.ofInt_add a b).symm
theorem iI_sub (a b : Int) : iI a - iI b = iI (a - b) := (Int32.ofInt_sub a b).symm
theorem iI_mul (a b : Int) : iI a * iI b = iI (a * b) := (Int32.ofInt_mul a b).symm
theorem iI_neg (a : Int) : -iI a = iI (-a) := (Int32.ofInt_neg a).symm
theorem lI_lt {a b : Int} (ha : rg a) (hb : rg b) : lI a < lI b ↔ a < b := by rw [Int64.lt_iff_toInt_lt, lI_toInt ha, lI_toInt hb]
theorem lI_le {a b : Int} (ha : rg a) (hb : rg b) : lI a ≤ lI b ↔ a ≤ b := by rw [Int64.le_iff_toInt_le, lI_toInt ha, lI_toInt hb]
theorem lI_eq {a b : Int} (ha : rg a) (hb : rg b) : lI a = lI b ↔ a = b := by rw [← Int64.toInt_inj, lI_toInt ha, lI_toInt hb]
theorem iI_lt {a b : Int} (ha : rgi a) (hb : rgi b) : iI a < iI b ↔ a < b := by rw [Int32.lt_iff_toInt_lt, iI_toInt ha, iI_toInt hb]
theorem iI_le {a b : Int} (ha : rgi a) (hb : rgi b) : iI a ≤ iI b ↔ a ≤ b := by rw [Int32.le_iff_toInt_le, iI_toInt ha, iI_toInt hb]
theorem iI_eq {a b : Int} (ha : rgi a) (hb : rgi b) : iI a = iI b ↔ a = b := by rw [← Int32.toInt_inj, iI_toInt ha, iI_toInt hb]
theorem nI_iI (n : Nat) : nI n = iI n := rfl
theorem iI_lI {z : Int} (h : rgi z) : (iI z).toInt64 = lI z := by
  apply Int64.toInt_inj.mp
  rw [Int32.toInt_toInt64, iI_toInt h, lI_toInt ⟨by have := h.1; omega, by have := h.2; omega⟩]
theorem lI_iI (z : Int) : (lI z).toInt32 = iI z := Int64.toInt32_ofInt
theorem lI_div {a b : Int} (ha : rg a) (hb : rg b) (h0 : 0 < b) : lI a / lI b = lI (a.tdiv b) := by
  apply Int64.toInt_inj.mp
  rw [Int64.toInt_div, lI_toInt ha, lI_toInt hb]
  unfold lI
  rw [Int64.toInt_ofInt]
theorem lI_rem {a b : Int} (ha : rg a) (hb : rg b) (h0 : 0 < b) : lI a - lI a / lI b * lI b = lI (a.tmod b) := by
  rw [lI_div ha hb h0, lI_mul, lI_sub]
  congr 1
  have := Int.tmod_def a b
  rw [this, Int.mul_comm]
theorem iI_div {a b : Int} (ha : rgi a) (hb : rgi b) (h0 : 0 < b) : iI a / iI b = iI (a.tdiv b) := by
  apply Int32.toInt_inj.mp
  rw [Int32.toInt_div, iI_toInt ha, iI_toInt hb]
  unfold iI
  rw [Int32.toInt_ofInt]
theorem iI_rem {a b : Int} (ha : rgi a) (hb : rgi b) (h0 : 0 < b) : iI a - iI a / iI b * iI b = iI (a.tmod b) := by
  rw [iI_div ha hb h0, iI_mul, iI_sub]
  congr 1
  have := Int.tmod_def a b
  rw [this, Int.mul_comm]
theorem lI_xor {a b : Int} (ha : rg a) (hb : rg b) (h0 : 0 ≤ b) : (0 : Int64) ≤ lI a ^^^ lI b ↔ 0 ≤ a := by
  have h : (lI a ^^^ lI b).toBitVec.msb = ((lI a).toBitVec.msb ^^ (lI b).toBitVec.msb) := by rw [Int64.toBitVec_xor, BitVec.msb_xor]
  rw [BitVec.msb_eq_toInt, BitVec.msb_eq_toInt, BitVec.msb_eq_toInt] at h
  have e1 : (lI a).toBitVec.toInt = a := lI_toInt ha
  have e2 : (lI b).toBitVec.toInt = b := lI_toInt hb
  rw [e1, e2] at h
  rw [Int64.le_iff_toInt_le]
  have e3 : (0 : Int64).toInt = 0 := rfl
  have e4 : (lI a ^^^ lI b).toInt = (lI a ^^^ lI b).toBitVec.toInt := rfl
  rw [e3, e4]
  have e5 : decide (b < 0) = false := by simp; omega
  rw [e5, Bool.xor_false] at h
  have h2 := decide_eq_decide.mp h
  omega
theorem iI_xor {a b : Int} (ha : rgi a) (hb : rgi b) (h0 : 0 ≤ b) : (0 : Int32) ≤ iI a ^^^ iI b ↔ 0 ≤ a := by
  have h : (iI a ^^^ iI b).toBitVec.msb = ((iI a).toBitVec.msb ^^ (iI b).toBitVec.msb) := by rw [Int32.toBitVec_xor, BitVec.msb_xor]
  rw [BitVec.msb_eq_toInt, BitVec.msb_eq_toInt, BitVec.msb_eq_toInt] at h
  have e1 : (iI a).toBitVec.toInt = a := iI_toInt ha
  have e2 : (iI b).toBitVec.toInt = b := iI_toInt hb
  rw [e1, e2] at h
  rw [Int32.le_iff_toInt_le]
  have e3 : (0 : Int32).toInt = 0 := rfl
  have e4 : (iI a ^^^ iI b).toInt = (iI a ^^^ iI b).toBitVec.toInt := rfl
  rw [e3, e4]
  have e5 : decide (b < 0) = false := by simp; omega
  rw [e5, Bool.xor_false] at h
  have h2 := decide_eq_decide.mp h
  omega
/-! what a method answers, and the memory behind it -/
def p_i (x : Int32) (I : sa_I) (J : sa_J) : sa_P := fun r I1 J1 => r = some (.int x) ∧ I1 = I ∧ J1 = J
def p_l (x : Int64) (I : sa_I) (J : sa_J) : sa_P := fun r I1 J1 => r = some (.long x) ∧ I1 = I ∧ J1 = J
def p_v (I : sa_I) (J : sa_J) : sa_P := fun r I1 J1 => r = none ∧ I1 = I ∧ J1 = J
section LF
variable {E : sa_E} {I : sa_I} {J : sa_J}
theorem c_abs {a : Int} (ha : rg a) (h : a ≠ -9223372036854775808) : Con E M_J9_abs_067f4 yJ9_abs_067f4 [.long (lI a)] I J (p_l (lI a.natAbs) I J) := by
  refine Con.ofF (by decide +kernel) rfl (Nat.le_of_ble_eq_true rfl) ?_
  refine bJ9_abs_067f4_0 (fun c => ?_) (fun c => ?_)
  · refine bJ9_abs_067f4_11 (bJ9_abs_067f4_12 ⟨?_, rfl, rfl⟩)
    have := (lI_le (a := 0) ⟨by omega, by omega⟩ ha).mp c
    rw [show (a.natAbs : Int) = a by omega]
  · refine bJ9_abs_067f4_6 (bJ9_abs_067f4_12 ⟨?_, rfl, rfl⟩)
    have : ¬ 0 ≤ a := fun q => c ((lI_le (a := 0) ⟨by omega, by omega⟩ ha).mpr q)
    rw [lI_neg, show (a.natAbs : Int) = -a by omega]
theorem c_floorMod {a b : Int} (ha : rg a) (hb : rg b) (h0 : 0 < b) : Con E M_J9_floorMod_f86c9 yJ9_floorMod_f86c9 [.long (lI a), .long (lI b)] I J (p_l (lI (a % b)) I J) := by
  refine Con.ofF (by decide +kernel) rfl (Nat.le_of_ble_eq_true rfl) ?_
  have hz : ¬ lI b = 0 := fun q => by have := (lI_eq hb (b := 0) ⟨by omega, by omega⟩).mp q; omega
  have hm : rg (a.tmod b) := by
    have := hb.2
    have h1 := Int.emod_nonneg a (show b ≠ 0 by omega)
    have h2 := Int.emod_lt_of_pos a h0
    have h3 := Int.emod_nonneg (-a) (show b ≠ 0 by omega)
    have h4 := Int.emod_lt_of_pos (-a) h0
    rcases Int.le_total 0 a with q | q
    · rw [Int.tmod_eq_emod_of_nonneg q]; exact ⟨by omega, by omega⟩
    · have h5 := Int.tmod_eq_emod_of_nonneg (b := b) (show 0 ≤ -a by omega)
      rw [Int.neg_tmod] at h5
      exact ⟨by omega, by omega⟩
  refine bJ9_floorMod_f86c9_0 hz (lI_rem ha hb h0) (fun c => ?_) (fun c => ?_)
  · have hp := (lI_xor ha hb (by omega)).mp c
    refine bJ9_floorMod_f86c9_25 ⟨?_, rfl, rfl⟩
    rw [Int.tmod_eq_emod_of_nonneg hp]
  · have hp : ¬ 0 ≤ a := fun q => c ((lI_xor ha hb (by omega)).mpr q)
    have e1 : a.tmod b = -((-a) % b) := by
      have h3 := Int.tmod_eq_emod_of_nonneg (b := b) (show 0 ≤ -a by omega)
      rw [← h3, Int.neg_tmod, Int.neg_neg]
    refine bJ9_floorMod_f86c9_13 (fun c2 => ?_) (fun c2 => ?_)
    · refine bJ9_floorMod_f86c9_25 ⟨?_, rfl, rfl⟩
      have h4 := (lI_eq hm (b := 0) ⟨by omega, by omega⟩).mp c2
      rw [h4]
      have h5 : (-a) % b = 0 := by omega
      have h6 : b ∣ a := (Int.dvd_neg).mp (Int.dvd_of_emod_eq_zero h5)
      rw [Int.emod_eq_zero_of_dvd h6]
    · refine bJ9_floorMod_f86c9_20 ⟨?_, rfl, rfl⟩
      have h4 : a.tmod b ≠ 0 := fun q => c2 ((lI_eq hm (b := 0) ⟨by omega, by omega⟩).mpr q)
      rw [lI_add]
      have h7 := Int.emod_nonneg (-a) (show b ≠ 0 by omega)
      have h8 := Int.emod_lt_of_pos (-a) h0
      have h9 : (a.tmod b + b) % b = a % b := by
        rw [Int.add_emod_right, Int.tmod_def, Int.sub_eq_add_neg, Int.add_comm, ← Int.mul_neg, Int.add_comm, Int.add_mul_emod_self_left]
      rw [← h9, Int.emod_eq_of_lt (by omega) (by omega)]
end LF
