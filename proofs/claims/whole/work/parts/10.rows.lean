/-! ===== numbers: ints as iI z, longs as jI z, z an Int ===== -/
def iI (z : Int) : Int32 := Int32.ofInt z
def jI (z : Int) : Int64 := Int64.ofInt z
theorem iI_add (a b : Int) : iI a + iI b = iI (a + b) := (Int32.ofInt_add a b).symm
theorem iI_sub (a b : Int) : iI a - iI b = iI (a - b) := (Int32.ofInt_sub a b).symm
theorem iI_mul (a b : Int) : iI a * iI b = iI (a * b) := (Int32.ofInt_mul a b).symm
theorem iI_neg (a : Int) : - iI a = iI (-a) := (Int32.ofInt_neg a).symm
theorem jI_add (a b : Int) : jI a + jI b = jI (a + b) := (Int64.ofInt_add a b).symm
theorem jI_sub (a b : Int) : jI a - jI b = jI (a - b) := (Int64.ofInt_sub a b).symm
theorem jI_mul (a b : Int) : jI a * jI b = jI (a * b) := (Int64.ofInt_mul a b).symm
theorem jI_neg (a : Int) : - jI a = jI (-a) := (Int64.ofInt_neg a).symm
theorem iI_T {z : Int} (h : -2147483648 ≤ z ∧ z < 2147483648) : (iI z).toInt = z := Int32.toInt_ofInt_of_le (by omega) (by omega)
theorem jI_T {z : Int} (h : -9223372036854775808 ≤ z ∧ z < 9223372036854775808) : (jI z).toInt = z := Int64.toInt_ofInt_of_le (by omega) (by omega)
theorem iI_of (x : Int32) : iI x.toInt = x := Int32.ofInt_toInt x
theorem iI_rng (x : Int32) : -2147483648 ≤ x.toInt ∧ x.toInt < 2147483648 := ⟨x.le_toInt, x.toInt_lt⟩
theorem iI_le {a b : Int} (ha : -2147483648 ≤ a ∧ a < 2147483648) (hb : -2147483648 ≤ b ∧ b < 2147483648) : iI a ≤ iI b ↔ a ≤ b := by rw [Int32.le_iff_toInt_le, iI_T ha, iI_T hb]
theorem iI_lt {a b : Int} (ha : -2147483648 ≤ a ∧ a < 2147483648) (hb : -2147483648 ≤ b ∧ b < 2147483648) : iI a < iI b ↔ a < b := by rw [Int32.lt_iff_toInt_lt, iI_T ha, iI_T hb]
theorem iI_eq {a b : Int} (ha : -2147483648 ≤ a ∧ a < 2147483648) (hb : -2147483648 ≤ b ∧ b < 2147483648) : iI a = iI b ↔ a = b := by rw [← Int32.toInt_inj, iI_T ha, iI_T hb]
theorem jI_lt {a b : Int} (ha : -9223372036854775808 ≤ a ∧ a < 9223372036854775808) (hb : -9223372036854775808 ≤ b ∧ b < 9223372036854775808) : jI a < jI b ↔ a < b := by rw [Int64.lt_iff_toInt_lt, jI_T ha, jI_T hb]
theorem jI_eq {a b : Int} (ha : -9223372036854775808 ≤ a ∧ a < 9223372036854775808) (hb : -9223372036854775808 ≤ b ∧ b < 9223372036854775808) : jI a = jI b ↔ a = b := by rw [← Int64.toInt_inj, jI_T ha, jI_T hb]
theorem iI_cl {k : Nat} (h : k < 2147483648) : (iI (k : Int)).toNatClampNeg = k := by
  unfold iI
  rw [Int32.toNatClampNeg_ofInt_of_le (by omega) (by omega)]
  exact Int.toNat_natCast k
theorem iI_in {z : Int} {k n : Nat} (hz : z = (k : Int)) (hk : k < n) (hn : n < 2147483648) : vp_in (iI z) n := by
  rw [vp_in_iff, iI_T (by omega)]
  omega
theorem iI_j {z : Int} (h : -2147483648 ≤ z ∧ z < 2147483648) : (iI z).toInt64 = jI z := by
  rw [← Int64.toInt_inj, Int32.toInt_toInt64, iI_T h, jI_T (by omega)]
theorem jI_i (z : Int) : (jI z).toInt32 = iI z := Int64.toInt32_ofInt
theorem iI_ne0 {b : Int} (h : 0 < b ∧ b < 2147483648) : ¬ iI b = 0 := fun q => by
  have := congrArg Int32.toInt q
  rw [iI_T (by omega)] at this
  have h0 : (0 : Int32).toInt = 0 := rfl
  omega
theorem iI_div {a b : Int} (ha : -2147483648 ≤ a ∧ a < 2147483648) (hb : 0 < b ∧ b < 2147483648) : iI a / iI b = iI (a.tdiv b) := by
  have hq : -2147483648 ≤ a.tdiv b ∧ a.tdiv b < 2147483648 := by
    rcases Int.le_total 0 a with h | h
    · rw [Int.tdiv_eq_ediv_of_nonneg h]
      have h1 : 0 ≤ a / b := Int.ediv_nonneg h (by omega)
      have h2 : a / b ≤ a := Int.ediv_le_self b h
      omega
    · have e : a.tdiv b = -((-a) / b) := by
        rw [← Int.neg_neg a, Int.neg_tdiv, Int.tdiv_eq_ediv_of_nonneg (by omega), Int.neg_neg]
      have h1 : 0 ≤ (-a) / b := Int.ediv_nonneg (by omega) (by omega)
      have h2 : (-a) / b ≤ -a := Int.ediv_le_self b (by omega)
      omega
  rw [← Int32.toInt_inj, Int32.toInt_div_of_ne_right _ _ (fun q => by
    have := congrArg Int32.toInt q
    rw [iI_T (by omega)] at this
    have h0 : (-1 : Int32).toInt = -1 := rfl
    omega), iI_T ha, iI_T (by omega), iI_T hq]
theorem iI_divN {a b : Int} (ha : 0 ≤ a ∧ a < 2147483648) (hb : 0 < b ∧ b < 2147483648) : iI a / iI b = iI (a / b) := by
  rw [iI_div (by omega) hb, Int.tdiv_eq_ediv_of_nonneg ha.1]
theorem iI_remN {a b : Int} (ha : 0 ≤ a ∧ a < 2147483648) (hb : 0 < b ∧ b < 2147483648) : iI a - iI a / iI b * iI b = iI (a % b) := by
  rw [iI_divN ha hb, iI_mul, iI_sub, Int.emod_def, Int.mul_comm]
def bI (c : Prop) [Decidable c] : Int := if c then 1 else 0
theorem bI_t {c : Prop} [Decidable c] (h : c) : bI c = 1 := if_pos h
theorem bI_f {c : Prop} [Decidable c] (h : ¬ c) : bI c = 0 := if_neg h
theorem bI_rng (c : Prop) [Decidable c] : 0 ≤ bI c ∧ bI c ≤ 1 := by
  unfold bI
  split <;> decide
theorem bI_nar (c : Prop) [Decidable c] : narrow .boolean (.int (iI (bI c))) = .int (iI (bI c)) := by
  unfold bI
  split <;> rfl
theorem bI_c {c d : Prop} [Decidable c] [Decidable d] (h : c ↔ d) : bI c = bI d := by
  unfold bI
  by_cases hc : c
  · rw [if_pos hc, if_pos (h.mp hc)]
  · rw [if_neg hc, if_neg (fun q => hc (h.mpr q))]

/-! ===== the world: cells 0 .. N - 1, at the addresses ad, holding w ===== -/
abbrev nG : Type := va_G × (Nat → ClassId)
def nL (N : Nat) (ad : Nat → Nat) (w : Nat → va_E) : va_W := (List.range N).map (fun i => (ad i, w i))
theorem nL_at (N : Nat) (ad : Nat → Nat) (w : Nat → va_E) (k : Nat) : (nL N ad w)[k]? = if k < N then some (ad k, w k) else none := by
  unfold nL
  rw [List.getElem?_map]
  split
  · rename_i h
    rw [List.getElem?_range h]
    rfl
  · rename_i h
    rw [List.getElem?_eq_none (by rw [List.length_range]; omega)]
    rfl
theorem nL_len (N : Nat) (ad : Nat → Nat) (w : Nat → va_E) : (nL N ad w).length = N := by simp [nL]
theorem nL_get {N : Nat} {ad : Nat → Nat} {w : Nat → va_E} {i : Nat} {e : va_E} (hi : i < N) (he : w i = e) : (nL N ad w)[i]? = some (ad i, e) := by
  rw [nL_at, if_pos hi, he]
theorem nL_set (N : Nat) (ad : Nat → Nat) (w : Nat → va_E) (i : Nat) (e : va_E) : (nL N ad w).set i (ad i, e) = nL N ad (va_up w i e) := by
  apply List.ext_getElem?
  intro k
  rw [List.getElem?_set, nL_len, nL_at, nL_at]
  by_cases h : i = k
  · subst h
    rw [if_pos rfl, va_up_self]
  · rw [if_neg h, va_up_ne _ _ (fun q => h q.symm)]
def nJ (A : Nat → Prop) (N : Nat) (ad : Nat → Nat) : Prop := (∀ i j, i < N → j < N → ad i = ad j → i = j) ∧ ∀ i, i < N → A (ad i)
theorem nJ.D {A : Nat → Prop} {N : Nat} {ad : Nat → Nat} (h : nJ A N ad) (w : Nat → va_E) : va_D A (nL N ad w) := by
  refine ⟨fun i j p q hi hj e => ?_, fun k q hk => ?_⟩
  · rw [nL_at] at hi hj
    by_cases h1 : i < N
    · by_cases h2 : j < N
      · rw [if_pos h1] at hi
        rw [if_pos h2] at hj
        cases hi
        cases hj
        exact h.1 i j h1 h2 e
      · rw [if_neg h2] at hj
        cases hj
    · rw [if_neg h1] at hi
      cases hi
  · rw [nL_at] at hk
    by_cases h1 : k < N
    · rw [if_pos h1] at hk
      cases hk
      exact h.2 k h1
    · rw [if_neg h1] at hk
      cases hk
def nA (N : Nat) (ad : Nat → Nat) (sz : Nat) : Nat → Prop := fun q => (∃ i, i < N ∧ ad i = q) ∨ sz ≤ q
def nInj (N : Nat) (ad : Nat → Nat) : Prop := ∀ i j, i < N → j < N → ad i = ad j → i = j
theorem nInj.J {N : Nat} {ad : Nat → Nat} (h : nInj N ad) (sz : Nat) : nJ (nA N ad sz) N ad := ⟨h, fun i hi => Or.inl ⟨i, hi, rfl⟩⟩
theorem nA.up {N sz sz' : Nat} {ad : Nat → Nat} (h : sz ≤ sz') : ∀ q, nA N ad sz' q → nA N ad sz q := fun q hq => hq.elim Or.inl (fun z => Or.inr (Nat.le_trans h z))
/-- the arrays' classes: int, long, boolean, of Tills, of Lands, of int arrays -/
def nTy (cs : Nat → ClassId) : List (ClassId × FieldType) := [(cs 0, .int), (cs 1, .long), (cs 2, .boolean), (cs 3, .object "NewCoins$Till"), (cs 4, .object "NewCoins$Land"), (cs 5, .array .int)]
def nNs : List Cond := [.methodLinkNest RX4 23 yX3_init RX6, .methodLinkNest RX4 51 yX5_init RX6, .methodLinkNest RX5 23 yX2_init RX6, .methodLinkNest RX6 26 yX0_init RX6, .methodLinkNest RX1 37 yX6_within RX6, .methodLinkNest RX3 28 yX6_within RX6, .methodLinkNest RX4 99 yX6_wholeTimes RX6, .methodLinkNest RX1 52 yX6_isSum RX6, .methodLinkNest RX1 55 yX6_wholeTimes RX6, .methodLinkNest RX4 68 yX6_within RX6, .methodLinkNest RX0 26 yX6_isSum RX6, .methodLinkNest RX0 60 yX6_wholeTimes RX6]
theorem nNs_is : ∀ w ∈ nNs, ∃ (a : String) (i : Nat) (x : MethodName) (h : String), w = .methodLinkNest a i x h := by
  intro w hw
  simp only [nNs, List.mem_cons, List.not_mem_nil, or_false] at hw
  rcases hw with rfl | rfl | rfl | rfl | rfl | rfl | rfl | rfl | rfl | rfl | rfl | rfl <;> exact ⟨_, _, _, _, rfl⟩
def nK (G : nG) (U : State) : Prop := va_K G.1 vwCl (nTy G.2) U ∧ ∀ w ∈ nNs, va_Nw w U
theorem nK.warm {G : nG} {s U : State} (hW : s.WarmedH U.vm) (h : nK G s) : nK G U := ⟨va_K.moved hW.alike h.1, fun w hw => by
  obtain ⟨a, i, x, q, rfl⟩ := nNs_is w hw
  exact va_Nw.warmM hW (h.2 _ hw)⟩
theorem nK.call {G : nG} {U : State} {g : JFrame} {mk : MethodId} {a : Array Value} (h : nK G U) : nK G (U.calling g mk a) := ⟨va_K.moved (u := U) (U := U.calling g mk a) (Vm.Alike.refl U.vm) h.1, fun w hw => by
  obtain ⟨a', i, x, q, rfl⟩ := nNs_is w hw
  exact va_Nw.same rfl rfl (h.2 _ hw)⟩
def nB (G : nG) (N : Nat) (ad : Nat → Nat) (w : Nat → va_E) (sz : Nat) (U : State) : Prop := U.heap.size = sz ∧ va_P G.1 vwCl (nL N ad w) U.heap ∧ nK G U ∧ nInj N ad
theorem nB.blind {G : nG} {N : Nat} {ad : Nat → Nat} {w : Nat → va_E} {sz : Nat} {av : List Value} : FrameBlind (va_Pc av (nB G N ad w sz)) := fun _ _ _ _ q => ⟨q.1, q.2.1, q.2.2.1, q.2.2.2.1.call, q.2.2.2.2⟩
theorem nB.pre {G : nG} {N : Nat} {ad : Nat → Nat} {w : Nat → va_E} {s : State} {H : Heap} {As : List Value} (hK : nK G s) (hI : nInj N ad) (hP : va_P G.1 vwCl (nL N ad w) H) : PreS s H (va_Pc As (nB G N ad w H.size)) As := ⟨nB.blind, fun U hU hW => ⟨rfl, by rw [hU], by rw [hU]; exact hP, hK.warm hW, hI⟩⟩
theorem nB.preV {G : nG} {N : Nat} {ad : Nat → Nat} {w : Nat → va_E} {s : State} {H : Heap} {As : List Value} {i ci : Nat} {fs : List Value} {q : vw_C} {C : String} (hK : nK G s) (hI : nInj N ad) (hP : va_P G.1 vwCl (nL N ad w) H) (hi : i < N) (he : w i = .inr (ci, fs)) (hc : vwCl[ci]? = some q) (hC : q.1 = C) : PreV s H C (ad i) (va_Pc (.ref (ad i) :: As) (nB G N ad w H.size)) As := by
  subst hC
  exact ⟨nB.blind, va_recv hK.1 hP hc (nL_get hi he), fun U hU hW => ⟨rfl, by rw [hU], by rw [hU]; exact hP, hK.warm hW, hI⟩⟩
/-! contents -/
abbrev aI (G : nG) (n : Nat) (F : Nat → Int) : va_E := .inl (G.2 0, n, .inl (fun j => iI (F j)))
abbrev aJ (G : nG) (n : Nat) (F : Nat → Int) : va_E := .inl (G.2 1, n, .inr (.inl (fun j => jI (F j))))
abbrev aZ (G : nG) (n : Nat) (F : Nat → Int) : va_E := .inl (G.2 2, n, .inl (fun j => iI (F j)))
abbrev aR (G : nG) (q n : Nat) (f : Nat → Option Nat) : va_E := .inl (G.2 q, n, .inr (.inr (.inr (.inr f))))
/-! ends of contracts: a reader; a writer whose answer is an int, a long, nothing -/
def nRd (v : Value) : Array Value → State → Outcome → State → Prop := fun _ st o t => o = .returned (some v) ∧ t.heap = st.heap
def nPi (G : nG) (N : Nat) (ad : Nat → Nat) (sz : Nat) (post : Int → (Nat → va_E) → Prop) : Array Value → State → Outcome → State → Prop := fun _ st oc t => (∃ (r : Int) (u : Nat → va_E), oc = .returned (some (.int (iI r))) ∧ post r u ∧ va_P G.1 vwCl (nL N ad u) t.heap) ∧ va_F (nA N ad sz) st t
def nPl (G : nG) (N : Nat) (ad : Nat → Nat) (sz : Nat) (post : Int → (Nat → va_E) → Prop) : Array Value → State → Outcome → State → Prop := fun _ st oc t => (∃ (r : Int) (u : Nat → va_E), oc = .returned (some (.long (jI r))) ∧ post r u ∧ va_P G.1 vwCl (nL N ad u) t.heap) ∧ va_F (nA N ad sz) st t
def nPv (G : nG) (N : Nat) (ad : Nat → Nat) (sz : Nat) (post : (Nat → va_E) → Prop) : Array Value → State → Outcome → State → Prop := fun _ st oc t => (∃ (u : Nat → va_E), oc = .returned none ∧ post u ∧ va_P G.1 vwCl (nL N ad u) t.heap) ∧ va_F (nA N ad sz) st t
