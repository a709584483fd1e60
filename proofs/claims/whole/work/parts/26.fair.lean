
def ush (x y : Int32) : Int32 := (x.toUInt32 >>> (y.toUInt32 &&& Int32.toUInt32 31)).toInt32
def bc1 (x : Int32) : Int32 := x - (ush x (iI 1) &&& (1431655765 : Int32))
def bc2 (x : Int32) : Int32 := (x &&& (858993459 : Int32)) + (ush x (iI 2) &&& (858993459 : Int32))
def bc3 (x : Int32) : Int32 := (x + ush x (iI 4)) &&& (252645135 : Int32)
def bc4 (x : Int32) : Int32 := x + ush x (iI 8)
def bc5 (x : Int32) : Int32 := x + ush x (iI 16)
def bcF (x : Int32) : Int32 := bc5 (bc4 (bc3 (bc2 (bc1 x)))) &&& iI 63
theorem n_wretR {p : Program} {l : Launch} {e : Env} {R : Room} {s : State} {m : MethodId} {args : Array Value} {below : List Frame} {meth : Method} {c : Code} {cells slots : Nat} {Q : State → Prop} {cc : ByteArray} {pc : Nat} {ls : Array Slot} {v v2 : Int32} (hQ : Q = MQ below (nRd (.int v2)) args s cells slots (fun _ => False)) (hx : p.tables.exec = Jvm.exec) (hb : c.code = cc) (hr : meth.sig.returnType = some .int) (hlocks : meth.locks = false) (hz : v = v2) (hdg : decode cc pc = .ok (.ireturn, 1)) : W p l e R s m args below meth c s.heap [] cells slots Q (F0 m pc ls [.int v]) := by
  subst hQ
  exact W.iret (v := v) hx hb hr (fun t ht _ => ⟨by rw [hz], ht⟩) (fun _ h => by cases h) hdg hlocks
def ctzF : Nat → Nat → Nat
  | 0, _ => 0
  | f + 1, x => if x % 2 = 1 then 0 else ctzF f (x / 2) + 1
def ctz (x : Nat) : Nat := ctzF 15 x
theorem ctzF_lt : ∀ (f n x : Nat), n ≤ f → 0 < x → x < 2 ^ n → ctzF f x < n
  | 0, n, x, h1, h2, h3 => by
    have : n = 0 := by omega
    subst this
    omega
  | f + 1, 0, x, h1, h2, h3 => by omega
  | f + 1, n + 1, x, h1, h2, h3 => by
    show (if x % 2 = 1 then 0 else ctzF f (x / 2) + 1) < n + 1
    split
    · omega
    · have h4 : 2 ^ (n + 1) = 2 * 2 ^ n := by rw [Nat.pow_succ, Nat.mul_comm]
      have := ctzF_lt f n (x / 2) (by omega) (by omega) (by omega)
      omega
theorem ctz_lt {n x : Nat} (hn : n ≤ 14) (h2 : 0 < x) (h3 : x < 2 ^ n) : ctz x < n := ctzF_lt 15 n x (by omega) h2 h3
def tuF (tu D : Nat → Int) (q : Nat) : Nat → Int := fun k => if k < q then D k - sumI D k else tu k
theorem tuF_0 (tu D : Nat → Int) : tuF tu D 0 = tu := by
  funext k
  unfold tuF
  rw [if_neg (Nat.not_lt_zero k)]
theorem tuF_s (tu D : Nat → Int) (q : Nat) : va_up (tuF tu D q) q (D q - sumI D q) = tuF tu D (q + 1) := by
  funext k
  unfold va_up tuF
  by_cases e : k = q
  · rw [if_pos e, if_pos (by omega), e]
  · rw [if_neg e]
    by_cases h : k < q
    · rw [if_pos h, if_pos (by omega)]
    · rw [if_neg h, if_neg (by omega)]
def alW (base : Int) (tu : Nat → Int) : Nat → Int
  | 0 => base
  | x + 1 => alW base tu x + tu (ctz (x + 1))
def faN (al : Nat → Int) : Nat → Int
  | 0 => max (al 0) (-(al 0))
  | x + 1 => if max (al (x + 1)) (-(al (x + 1))) < faN al x then max (al (x + 1)) (-(al (x + 1))) else faN al x
def faB (al : Nat → Int) : Nat → Nat
  | 0 => 0
  | x + 1 => if max (al (x + 1)) (-(al (x + 1))) < faN al x then x + 1 else faB al x
theorem faN_y {al : Nat → Int} {x : Nat} (h : max (al (x + 1)) (-(al (x + 1))) < faN al x) : faN al (x + 1) = max (al (x + 1)) (-(al (x + 1))) := if_pos h
theorem faN_n {al : Nat → Int} {x : Nat} (h : ¬ max (al (x + 1)) (-(al (x + 1))) < faN al x) : faN al (x + 1) = faN al x := if_neg h
theorem faB_y {al : Nat → Int} {x : Nat} (h : max (al (x + 1)) (-(al (x + 1))) < faN al x) : faB al (x + 1) = x + 1 := if_pos h
theorem faB_n {al : Nat → Int} {x : Nat} (h : ¬ max (al (x + 1)) (-(al (x + 1))) < faN al x) : faB al (x + 1) = faB al x := if_neg h
theorem faN_0 (al : Nat → Int) : ∀ x, 0 ≤ faN al x
  | 0 => by
    show 0 ≤ max (al 0) (-(al 0))
    omega
  | x + 1 => by
    by_cases h : max (al (x + 1)) (-(al (x + 1))) < faN al x
    · rw [faN_y h]
      omega
    · rw [faN_n h]
      exact faN_0 al x
theorem faN_le (al : Nat → Int) : ∀ x, faN al x ≤ max (al 0) (-(al 0))
  | 0 => Int.le_refl _
  | x + 1 => by
    have ih := faN_le al x
    by_cases h : max (al (x + 1)) (-(al (x + 1))) < faN al x
    · rw [faN_y h]
      omega
    · rw [faN_n h]
      exact ih
theorem faB_st {al : Nat → Int} {x : Nat} (h : faN al x ≤ 0) : ∀ d, faB al (x + d) = faB al x ∧ faN al (x + d) ≤ 0
  | 0 => ⟨rfl, h⟩
  | d + 1 => by
    have ih := faB_st h d
    have hn : ¬ max (al (x + d + 1)) (-(al (x + d + 1))) < faN al (x + d) := by omega
    exact ⟨(faB_n hn).trans ih.1, by rw [← Nat.add_assoc, faN_n hn]; exact ih.2⟩
theorem faB_le (al : Nat → Int) : ∀ x, faB al x ≤ x
  | 0 => Nat.le_refl _
  | x + 1 => by
    have ih := faB_le al x
    by_cases h : max (al (x + 1)) (-(al (x + 1))) < faN al x
    · rw [faB_y h]
      omega
    · rw [faB_n h]
      omega
theorem sumI_rng {f : Nat → Int} {B : Int} (hB : 0 ≤ B) : ∀ n : Nat, (∀ k, k < n → -B ≤ f k ∧ f k ≤ B) → -((n : Int) * B) ≤ sumI f n ∧ sumI f n ≤ (n : Int) * B
  | 0, _ => by
    show -(((0 : Nat) : Int) * B) ≤ 0 ∧ (0 : Int) ≤ ((0 : Nat) : Int) * B
    rw [show ((0 : Nat) : Int) = 0 from rfl, Int.zero_mul]
    omega
  | n + 1, h => by
    have ih := sumI_rng hB n (fun k hk => h k (by omega))
    have h1 := h n (by omega)
    have e : (((n + 1 : Nat) : Int)) * B = (n : Int) * B + B := by rw [Int.natCast_add, Int.add_mul]; omega
    show -(((n + 1 : Nat) : Int) * B) ≤ sumI f n + f n ∧ sumI f n + f n ≤ ((n + 1 : Nat) : Int) * B
    rw [e]
    omega
theorem gnV_rng {gp gt : Nat → Nat} {ra rb stp gd ru : Nat} (h1 : gp gd ≤ 10000) (h2 : gt gd ≤ 100) (h3 : ra ≤ 100) (h4 : rb ≤ 100) (h5 : stp ≤ 100) : -2000000000000 ≤ gnV gp gt ra rb stp gd ru ∧ gnV gp gt ra rb stp gd ru ≤ 2000000000000 := by
  have hp := nPr_rng (pa := gp gd * ra) (sp := stp * rb) (stp := stp) (ru := ru) (Nat.mul_le_mul h1 h3) h5
  have e1 : ((nPr (gp gd * ra) (stp * rb) stp ru : Nat) : Int) * ((rb : Nat) : Int) = ((nPr (gp gd * ra) (stp * rb) stp ru * rb : Nat) : Int) := by rw [Int.natCast_mul]
  have e2 : (gp gd : Int) * ((ra : Nat) : Int) = ((gp gd * ra : Nat) : Int) := by rw [Int.natCast_mul]
  have h6 : nPr (gp gd * ra) (stp * rb) stp ru * rb ≤ 100000100 * 100 := Nat.mul_le_mul hp h4
  have h7 : gp gd * ra ≤ 10000 * 100 := Nat.mul_le_mul h1 h3
  unfold gnV
  rw [e1, e2]
  generalize nPr (gp gd * ra) (stp * rb) stp ru * rb = P at h6
  generalize gp gd * ra = Q at h7
  have a1 : ((P : Int) - Q) * (gt gd : Int) ≤ 20000000000 * (gt gd : Int) := Int.mul_le_mul_of_nonneg_right (by omega) (by omega)
  have a2 : (-20000000000) * (gt gd : Int) ≤ ((P : Int) - Q) * (gt gd : Int) := Int.mul_le_mul_of_nonneg_right (by omega) (by omega)
  omega
theorem tuF_rng {tu D : Nat → Int} {q : Nat} (hq : q ≤ 14) (h : ∀ k, k < q → -4000000000000 ≤ D k ∧ D k ≤ 4000000000000) : ∀ k, k < q → -100000000000000 ≤ tuF tu D q k ∧ tuF tu D q k ≤ 100000000000000 := by
  intro k hk
  have h1 := sumI_rng (f := D) (B := 4000000000000) (by decide) k (fun j hj => h j (by omega))
  have h2 := h k hk
  unfold tuF
  rw [if_pos hk]
  omega
theorem alW_rng {base : Int} {tu : Nat → Int} {n : Nat} (hn : n ≤ 14) (hb : -100000000000000 ≤ base ∧ base ≤ 100000000000000) (h : ∀ k, k < n → -100000000000000 ≤ tu k ∧ tu k ≤ 100000000000000) : ∀ x : Nat, x < 2 ^ n → -(100000000000000 * ((x : Int) + 1)) ≤ alW base tu x ∧ alW base tu x ≤ 100000000000000 * ((x : Int) + 1)
  | 0, _ => by
    show -(100000000000000 * (((0 : Nat) : Int) + 1)) ≤ base ∧ base ≤ 100000000000000 * (((0 : Nat) : Int) + 1)
    omega
  | x + 1, hx => by
    have ih := alW_rng hn hb h x (by omega)
    have h1 := h (ctz (x + 1)) (ctz_lt hn (by omega) hx)
    show -(100000000000000 * (((x + 1 : Nat) : Int) + 1)) ≤ alW base tu x + tu (ctz (x + 1)) ∧ alW base tu x + tu (ctz (x + 1)) ≤ 100000000000000 * (((x + 1 : Nat) : Int) + 1)
    omega
theorem n_shl1 {p : Program} {l : Launch} {e : Env} {R : Room} {s : State} {m : MethodId} {args : Array Value} {below : List Frame} {meth : Method} {c : Code} {H : Heap} {locs : List Loc} {cells slots : Nat} {Q : State → Prop} {cc : ByteArray} {pc : Nat} {ls : Array Slot} {rest : List Value} (hx : p.tables.exec = Jvm.exec) (hb : c.code = cc) (k : Nat) (hk : k < 15) (hdg : decode cc pc = .ok (.ishl, 1)) (kk : W p l e R s m args below meth c H locs cells slots Q (F0 m (pc + 1) ls (.int (iI ((2 ^ k : Nat) : Int)) :: rest))) : W p l e R s m args below meth c H locs cells slots Q (F0 m pc ls (.int (iI ((k : Nat) : Int)) :: .int (iI 1) :: rest)) := lv_ishl hx hb hdg (by rw [shl1 k hk]; exact kk)
set_option maxRecDepth 1000000 in
theorem bc_all : ∀ k, k < 128 → (List.range 128).all (fun j => decide (128 * k + j = 0 ∨ bcF ((iI ((128 * k + j : Nat) : Int) &&& iI (-((128 * k + j : Nat) : Int))) - iI 1) = iI ((ctz (128 * k + j) : Nat) : Int))) = true := by decide +kernel
theorem bc_ctz {x : Nat} (h0 : 0 < x) (h : x < 16384) : bcF ((iI ((x : Nat) : Int) &&& iI (-((x : Nat) : Int))) - iI 1) = iI ((ctz x : Nat) : Int) := by
  have h1 := List.all_eq_true.mp (bc_all (x / 128) (by omega)) (x % 128) (List.mem_range.mpr (by omega))
  have e : 128 * (x / 128) + x % 128 = x := by omega
  rw [e] at h1
  rcases of_decide_eq_true h1 with h2 | h2
  · omega
  · exact h2
set_option maxHeartbeats 4000000 in
set_option maxRecDepth 100000 in
theorem c_J6_bitCount_0f7a4 {l : Launch} (xx : Int32) : Met l yJ6_bitCount_0f7a4 wsJ6_bitCount_0f7a4 ({ frames := 0, cells := 0, slots := 0, locals := 0 }) (fun v _ => v = ([.int xx] : List Value).toArray) (nRd (.int (bcF xx))) 0 0 (fun _ => False) := by
  refine n_ent0 (cc := cJ6_bitCount_0f7a4) (maxL := 1) (ret := (some .int)) (by decide) rfl (Nat.le_of_ble_eq_true rfl) ?_
  intro p e s m below meth cd hx hb hr hml hlocks hts hown Q hQ ls hl
  have hown : s.vm.findClass RJ6 = some m.cls := hown
  have hl : lv_has ls 1 [(0, .int xx)] := hl
  refine lv_iload_n hx hb dJ6_bitCount_0f7a4_0 rfl (lv_at hl 0 rfl) ?_
  refine lv_iload_n hx hb dJ6_bitCount_0f7a4_1 rfl (lv_at hl 0 rfl) ?_
  refine n_iconst hx hb dJ6_bitCount_0f7a4_2 ?_
  refine lv_iushr (v := (ush xx (iI 1))) hx hb dJ6_bitCount_0f7a4_3 rfl ?_
  refine lv_ldcw (v := 1431655765) hx hb hown (hts _ (nT_m wk_J6_265)) dJ6_bitCount_0f7a4_4 ?_
  refine lv_iand hx hb dJ6_bitCount_0f7a4_7 ?_
  refine lv_isub hx hb dJ6_bitCount_0f7a4_8 ?_
  refine lv_istore_n (lv' := [(0, .int (bc1 xx))]) hx hb dJ6_bitCount_0f7a4_9 rfl hl (by decide) rfl (fun ls hl => ?_)
  refine lv_iload_n hx hb dJ6_bitCount_0f7a4_10 rfl (lv_at hl 0 rfl) ?_
  refine lv_ldcw (v := 858993459) hx hb hown (hts _ (nT_m wk_J6_266)) dJ6_bitCount_0f7a4_11 ?_
  refine lv_iand hx hb dJ6_bitCount_0f7a4_14 ?_
  refine lv_iload_n hx hb dJ6_bitCount_0f7a4_15 rfl (lv_at hl 0 rfl) ?_
  refine n_iconst hx hb dJ6_bitCount_0f7a4_16 ?_
  refine lv_iushr (v := (ush (bc1 xx) (iI 2))) hx hb dJ6_bitCount_0f7a4_17 rfl ?_
  refine lv_ldcw (v := 858993459) hx hb hown (hts _ (nT_m wk_J6_266)) dJ6_bitCount_0f7a4_18 ?_
  refine lv_iand hx hb dJ6_bitCount_0f7a4_21 ?_
  refine lv_iadd hx hb dJ6_bitCount_0f7a4_22 ?_
  refine lv_istore_n (lv' := [(0, .int (bc2 (bc1 xx)))]) hx hb dJ6_bitCount_0f7a4_23 rfl hl (by decide) rfl (fun ls hl => ?_)
  refine lv_iload_n hx hb dJ6_bitCount_0f7a4_24 rfl (lv_at hl 0 rfl) ?_
  refine lv_iload_n hx hb dJ6_bitCount_0f7a4_25 rfl (lv_at hl 0 rfl) ?_
  refine n_iconst hx hb dJ6_bitCount_0f7a4_26 ?_
  refine lv_iushr (v := (ush (bc2 (bc1 xx)) (iI 4))) hx hb dJ6_bitCount_0f7a4_27 rfl ?_
  refine lv_iadd hx hb dJ6_bitCount_0f7a4_28 ?_
  refine lv_ldcw (v := 252645135) hx hb hown (hts _ (nT_m wk_J6_267)) dJ6_bitCount_0f7a4_29 ?_
  refine lv_iand hx hb dJ6_bitCount_0f7a4_32 ?_
  refine lv_istore_n (lv' := [(0, .int (bc3 (bc2 (bc1 xx))))]) hx hb dJ6_bitCount_0f7a4_33 rfl hl (by decide) rfl (fun ls hl => ?_)
  refine lv_iload_n hx hb dJ6_bitCount_0f7a4_34 rfl (lv_at hl 0 rfl) ?_
  refine lv_iload_n hx hb dJ6_bitCount_0f7a4_35 rfl (lv_at hl 0 rfl) ?_
  refine n_bipush hx hb dJ6_bitCount_0f7a4_36 (by decide) ?_
  refine lv_iushr (v := (ush (bc3 (bc2 (bc1 xx))) (iI 8))) hx hb dJ6_bitCount_0f7a4_38 rfl ?_
  refine lv_iadd hx hb dJ6_bitCount_0f7a4_39 ?_
  refine lv_istore_n (lv' := [(0, .int (bc4 (bc3 (bc2 (bc1 xx)))))]) hx hb dJ6_bitCount_0f7a4_40 rfl hl (by decide) rfl (fun ls hl => ?_)
  refine lv_iload_n hx hb dJ6_bitCount_0f7a4_41 rfl (lv_at hl 0 rfl) ?_
  refine lv_iload_n hx hb dJ6_bitCount_0f7a4_42 rfl (lv_at hl 0 rfl) ?_
  refine n_bipush hx hb dJ6_bitCount_0f7a4_43 (by decide) ?_
  refine lv_iushr (v := (ush (bc4 (bc3 (bc2 (bc1 xx)))) (iI 16))) hx hb dJ6_bitCount_0f7a4_45 rfl ?_
  refine lv_iadd hx hb dJ6_bitCount_0f7a4_46 ?_
  refine lv_istore_n (lv' := [(0, .int (bc5 (bc4 (bc3 (bc2 (bc1 xx))))))]) hx hb dJ6_bitCount_0f7a4_47 rfl hl (by decide) rfl (fun ls hl => ?_)
  refine lv_iload_n hx hb dJ6_bitCount_0f7a4_48 rfl (lv_at hl 0 rfl) ?_
  refine n_bipush hx hb dJ6_bitCount_0f7a4_49 (by decide) ?_
  refine lv_iand hx hb dJ6_bitCount_0f7a4_51 ?_
  exact n_wretR hQ hx hb hr hlocks rfl dJ6_bitCount_0f7a4_52
theorem c_bit_ctz {l : Launch} (x : Nat) (h0 : 0 < x) (h : x < 16384) : Met l yJ6_bitCount_0f7a4 wsJ6_bitCount_0f7a4 ({ frames := 0, cells := 0, slots := 0, locals := 0 }) (fun v _ => v = ([.int ((iI ((x : Nat) : Int) &&& iI (-((x : Nat) : Int))) - iI 1)] : List Value).toArray) (nRd (.int (iI ((ctz x : Nat) : Int)))) 0 0 (fun _ => False) := by
  rw [← bc_ctz h0 h]
  exact c_J6_bitCount_0f7a4 _
set_option maxHeartbeats 4000000 in
set_option maxRecDepth 100000 in
theorem c_X6_startOfWays {l : Launch} {G : nG} {N : Nat} {ad : Nat → Nat} {w : Nat → va_E} {sz : Nat} (x b tn ra rb stp : Nat) (gn : Nat) (gp gt : Nat → Nat) (tu : Nat → Int) (hN : x + 218 < N) (hxb : b = x + 1) (htn : tn ≤ 4) (hra : 1 ≤ ra ∧ ra ≤ 100) (hrb : 1 ≤ rb ∧ rb ≤ 100) (hst : 1 ≤ stp ∧ stp ≤ 100) (hgp : ∀ k, gp k ≤ 10000) (hgt : ∀ k, gt k ≤ 100) (hg : gn ≤ 14) (f_x : w x = .inr (6, [.ref (ad b), .ref (ad (x + 51)), .ref (ad (x + 52)), .ref (ad (x + 53)), .ref (ad (x + 67)), .ref (ad (x + 68))])) (f_L : w b = .inr (4, [.ref (ad (b + 1)), .ref (ad (b + 5)), .ref (ad (b + 9)), .ref (ad (b + 12)), .ref (ad (b + 13)), .int (iI ((tn : Nat) : Int)), .int (iI ((ra : Nat) : Int)), .int (iI ((rb : Nat) : Int)), .int (iI ((stp : Nat) : Int))])) (f_g : w (b + 9) = .inr (3, [.int (iI ((gn : Nat) : Int)), .ref (ad ((b + 9) + 1)), .ref (ad ((b + 9) + 2))])) (f_gp : w ((b + 9) + 1) = aI G 14 (fun q => (gp q : Int))) (f_gt : w ((b + 9) + 2) = aI G 14 (fun q => (gt q : Int))) (f_tu : w (x + 68) = aJ G 14 tu) : Met l yX6_startOfWays wsX6_startOfWays ({ frames := 3, cells := 0, slots := 0, locals := 73 }) (va_Pc [.ref (ad x)] (nB G N ad w sz)) (nPl G N ad sz (fun r u => (∀ j, j ≠ (x + 68) → u j = w j) ∧ (r = sumI (fun g9 => gnV gp gt ra rb stp g9 0) gn) ∧ (u (x + 68) = aJ G 14 (tuF tu (fun g9 => gnV gp gt ra rb stp g9 1 - gnV gp gt ra rb stp g9 0) gn)))) 0 0 (nA N ad sz) := by
  refine n_ent (cc := cX6_startOfWays) (maxL := 10) (ret := (some .long)) (by decide) rfl (Nat.le_of_ble_eq_true rfl) ?_
  intro p e s m below meth cd hx hb hr hml hlocks hts hown hnm hsz hP hK hI Q hQ ls hl
  have hown : s.vm.findClass RX6 = some m.cls := hown
  subst hsz
  have hJ := hI.J s.heap.size
  have hS : va_S (nA N ad s.heap.size) s.heap s.heap [] := va_S.rf
  have hfr : ∀ j, j ≠ (x + 68) → w j = w j := fun _ _ => rfl
  have hl : lv_has ls 10 [(0, .ref (ad x))] := hl
  refine n_lconst (z := 0) hx hb dX6_startOfWays_0 (by decide) ?_
  refine lv_lstore_n (lv' := [(1, .long (jI 0)), (0, .ref (ad x))]) hx hb dX6_startOfWays_1 rfl hl (by decide) rfl (fun ls hl => ?_)
  refine n_lconst (z := 0) hx hb dX6_startOfWays_2 (by decide) ?_
  refine lv_lstore_n (lv' := [(3, .long (jI 0)), (1, .long (jI 0)), (0, .ref (ad x))]) hx hb dX6_startOfWays_3 rfl hl (by decide) rfl (fun ls hl => ?_)
  refine n_iconst hx hb dX6_startOfWays_4 ?_
  refine lv_istore (lv' := [(5, .int (iI 0)), (3, .long (jI 0)), (1, .long (jI 0)), (0, .ref (ad x))]) hx hb dX6_startOfWays_5 hl (by decide) rfl (fun ls hl => ?_)
  have lp1 : ∀ (fu : Nat), ∀ (q : Nat), ∀ (w2 : Nat → va_E) (H : Heap) (locs : List Loc), ∀ (ls : Array Slot), gn - q < fu → q ≤ gn → (∀ j, j ≠ (x + 68) → w2 j = w j) → w2 x = .inr (6, [.ref (ad b), .ref (ad (x + 51)), .ref (ad (x + 52)), .ref (ad (x + 53)), .ref (ad (x + 67)), .ref (ad (x + 68))]) → w2 b = .inr (4, [.ref (ad (b + 1)), .ref (ad (b + 5)), .ref (ad (b + 9)), .ref (ad (b + 12)), .ref (ad (b + 13)), .int (iI ((tn : Nat) : Int)), .int (iI ((ra : Nat) : Int)), .int (iI ((rb : Nat) : Int)), .int (iI ((stp : Nat) : Int))]) → w2 (b + 9) = .inr (3, [.int (iI ((gn : Nat) : Int)), .ref (ad ((b + 9) + 1)), .ref (ad ((b + 9) + 2))]) → w2 ((b + 9) + 1) = aI G 14 (fun q => (gp q : Int)) → w2 ((b + 9) + 2) = aI G 14 (fun q => (gt q : Int)) → w2 (x + 68) = aJ G 14 (tuF tu (fun g9 => gnV gp gt ra rb stp g9 1 - gnV gp gt ra rb stp g9 0) q) → va_P G.1 vwCl (nL N ad w2) H → va_S (nA N ad s.heap.size) s.heap H locs → lv_has ls 10 [(0, .ref (ad x)), (1, .long (jI (sumI (fun g9 => gnV gp gt ra rb stp g9 0) q))), (3, .long (jI (sumI (fun g9 => gnV gp gt ra rb stp g9 1 - gnV gp gt ra rb stp g9 0) q))), (5, .int (iI ((q : Nat) : Int)))] → W p l e ({ frames := 3, cells := 0, slots := 0, locals := 73 } : Room) s m ([.ref (ad x)] : List Value).toArray below meth cd H locs 0 0 Q (F0 m 7 ls []) := by
    intro fu
    induction fu with
    | zero =>
      intro q w2 H locs ls hfu hq hfr f_x f_L f_g f_gp f_gt f_tu hP hS hl
      exact absurd hfu (Nat.not_lt_zero _)
    | succ fu ih3 =>
      intro q w2 H locs ls hfu hq hfr f_x f_L f_g f_gp f_gt f_tu hP hS hl
      refine lv_iload hx hb dX6_startOfWays_7 (lv_at hl 3 rfl) ?_
      refine lv_aload_n hx hb dX6_startOfWays_9 rfl (lv_at hl 0 rfl) ?_
      refine n_get hx hb hts u_X6 hown hK hP (by omega) f_x rfl 0 (by decide) (nT_m wf_X6_10) rfl dX6_startOfWays_10 ?_
      refine n_get hx hb hts u_X4 hown hK hP (by omega) f_L rfl 2 (by decide) (nT_m wf_X6_64) rfl dX6_startOfWays_13 ?_
      refine n_get hx hb hts u_X3 hown hK hP (by omega) f_g rfl 0 (by decide) (nT_m wf_X6_89) rfl dX6_startOfWays_16 ?_
      refine n_icmp_ge (tgt := 76) hx hb dX6_startOfWays_19 (by decide) (by omega) (by omega) (fun hc19 => ?_) (fun hc19 => ?_)
      · skip
        refine lv_lload_n hx hb dX6_startOfWays_76 rfl (lv_at hl 1 rfl) ?_
        refine n_lretP hQ hx hb hr hlocks hP hS dX6_startOfWays_77 ?_
        obtain rfl : q = gn := by omega
        exact ⟨hfr, rfl, f_tu⟩
      · skip
        refine lv_aload_n hx hb dX6_startOfWays_22 rfl (lv_at hl 0 rfl) ?_
        refine n_get hx hb hts u_X6 hown hK hP (by omega) f_x rfl 0 (by decide) (nT_m wf_X6_10) rfl dX6_startOfWays_23 ?_
        refine lv_iload hx hb dX6_startOfWays_26 (lv_at hl 3 rfl) ?_
        refine n_iconst hx hb dX6_startOfWays_28 ?_
        refine n_rdF (va_runV (As := [.int (iI ((q : Nat) : Int)), .int (iI 0)]) (rest := []) ⟨hx, hb, hml, hown, hts⟩ (c_X4_gainOf _ _ _ _ _ _ gp gt q 0 (by omega) htn hra hrb hst hgp hgt (by omega) (by omega) f_L f_g f_gp f_gt) (cwV 2 hts (nT_V wl_X6_92 wi_X4_gainOf ws_X4_gainOf wn_X4 wc_X4_gainOf) rfl rfl rfl (by decide +kernel) ⟨Nat.le_of_ble_eq_true rfl, Nat.le_of_ble_eq_true rfl⟩) (nB.preV hK hI hP (by omega) f_L rfl rfl) rfl rfl hl.1 rfl (lv_room (Nat.le_of_ble_eq_true rfl)) dX6_startOfWays_29 ⟨Nat.zero_le _, Nat.zero_le _⟩) ?_
        refine lv_lstore (lv' := [(6, .long (jI ((((nPr (gp q * ra) (stp * rb) stp 0 : Nat) : Int) * ((rb : Nat) : Int) - (gp q : Int) * ((ra : Nat) : Int)) * (gt q : Int)))), (0, .ref (ad x)), (1, .long (jI (sumI (fun g9 => gnV gp gt ra rb stp g9 0) q))), (3, .long (jI (sumI (fun g9 => gnV gp gt ra rb stp g9 1 - gnV gp gt ra rb stp g9 0) q))), (5, .int (iI ((q : Nat) : Int)))]) hx hb dX6_startOfWays_32 hl (by decide) rfl (fun ls hl => ?_)
        refine lv_aload_n hx hb dX6_startOfWays_34 rfl (lv_at hl 1 rfl) ?_
        refine n_get hx hb hts u_X6 hown hK hP (by omega) f_x rfl 0 (by decide) (nT_m wf_X6_10) rfl dX6_startOfWays_35 ?_
        refine lv_iload hx hb dX6_startOfWays_38 (lv_at hl 4 rfl) ?_
        refine n_iconst hx hb dX6_startOfWays_40 ?_
        refine n_rdF (va_runV (As := [.int (iI ((q : Nat) : Int)), .int (iI 1)]) (rest := []) ⟨hx, hb, hml, hown, hts⟩ (c_X4_gainOf _ _ _ _ _ _ gp gt q 1 (by omega) htn hra hrb hst hgp hgt (by omega) (by omega) f_L f_g f_gp f_gt) (cwV 2 hts (nT_V wl_X6_92 wi_X4_gainOf ws_X4_gainOf wn_X4 wc_X4_gainOf) rfl rfl rfl (by decide +kernel) ⟨Nat.le_of_ble_eq_true rfl, Nat.le_of_ble_eq_true rfl⟩) (nB.preV hK hI hP (by omega) f_L rfl rfl) rfl rfl hl.1 rfl (lv_room (Nat.le_of_ble_eq_true rfl)) dX6_startOfWays_41 ⟨Nat.zero_le _, Nat.zero_le _⟩) ?_
        refine lv_lload hx hb dX6_startOfWays_44 (lv_at hl 0 rfl) ?_
        refine n_lsub hx hb dX6_startOfWays_46 ?_
        refine lv_lstore (lv' := [(8, .long (jI ((((nPr (gp q * ra) (stp * rb) stp 1 : Nat) : Int) * ((rb : Nat) : Int) - (gp q : Int) * ((ra : Nat) : Int)) * (gt q : Int) - (((nPr (gp q * ra) (stp * rb) stp 0 : Nat) : Int) * ((rb : Nat) : Int) - (gp q : Int) * ((ra : Nat) : Int)) * (gt q : Int)))), (6, .long (jI ((((nPr (gp q * ra) (stp * rb) stp 0 : Nat) : Int) * ((rb : Nat) : Int) - (gp q : Int) * ((ra : Nat) : Int)) * (gt q : Int)))), (0, .ref (ad x)), (1, .long (jI (sumI (fun g9 => gnV gp gt ra rb stp g9 0) q))), (3, .long (jI (sumI (fun g9 => gnV gp gt ra rb stp g9 1 - gnV gp gt ra rb stp g9 0) q))), (5, .int (iI ((q : Nat) : Int)))]) hx hb dX6_startOfWays_47 hl (by decide) rfl (fun ls hl => ?_)
        refine lv_aload_n hx hb dX6_startOfWays_49 rfl (lv_at hl 2 rfl) ?_
        refine n_get hx hb hts u_X6 hown hK hP (by omega) f_x rfl 5 (by decide) (nT_m wf_X6_35) rfl dX6_startOfWays_50 ?_
        refine lv_iload hx hb dX6_startOfWays_53 (lv_at hl 5 rfl) ?_
        refine lv_lload hx hb dX6_startOfWays_55 (lv_at hl 0 rfl) ?_
        refine lv_lload_n hx hb dX6_startOfWays_57 rfl (lv_at hl 4 rfl) ?_
        refine n_lsub hx hb dX6_startOfWays_58 ?_
        refine n_last hx hb hK hJ hP hS q (by omega) f_tu (by omega) (by omega) (by decide) dX6_startOfWays_59 (fun w4 H locs f_tu hne5 hP hS => ?_)
        have f_x := (hne5 x (by omega)).trans f_x
        have f_L := (hne5 b (by omega)).trans f_L
        have f_g := (hne5 (b + 9) (by omega)).trans f_g
        have f_gp := (hne5 ((b + 9) + 1) (by omega)).trans f_gp
        have f_gt := (hne5 ((b + 9) + 2) (by omega)).trans f_gt
        have hfr : ∀ j, j ≠ (x + 68) → w4 j = w j := fun j a0 => (hne5 j (by omega)).trans (hfr j a0)
        refine lv_lload_n hx hb dX6_startOfWays_60 rfl (lv_at hl 4 rfl) ?_
        refine lv_lload hx hb dX6_startOfWays_61 (lv_at hl 0 rfl) ?_
        refine n_ladd hx hb dX6_startOfWays_63 ?_
        refine lv_lstore_n (lv' := [(3, .long (jI (sumI (fun g9 => gnV gp gt ra rb stp g9 1 - gnV gp gt ra rb stp g9 0) q + ((((nPr (gp q * ra) (stp * rb) stp 1 : Nat) : Int) * ((rb : Nat) : Int) - (gp q : Int) * ((ra : Nat) : Int)) * (gt q : Int) - (((nPr (gp q * ra) (stp * rb) stp 0 : Nat) : Int) * ((rb : Nat) : Int) - (gp q : Int) * ((ra : Nat) : Int)) * (gt q : Int))))), (8, .long (jI ((((nPr (gp q * ra) (stp * rb) stp 1 : Nat) : Int) * ((rb : Nat) : Int) - (gp q : Int) * ((ra : Nat) : Int)) * (gt q : Int) - (((nPr (gp q * ra) (stp * rb) stp 0 : Nat) : Int) * ((rb : Nat) : Int) - (gp q : Int) * ((ra : Nat) : Int)) * (gt q : Int)))), (6, .long (jI ((((nPr (gp q * ra) (stp * rb) stp 0 : Nat) : Int) * ((rb : Nat) : Int) - (gp q : Int) * ((ra : Nat) : Int)) * (gt q : Int)))), (0, .ref (ad x)), (1, .long (jI (sumI (fun g9 => gnV gp gt ra rb stp g9 0) q))), (5, .int (iI ((q : Nat) : Int)))]) hx hb dX6_startOfWays_64 rfl hl (by decide) rfl (fun ls hl => ?_)
        refine lv_lload_n hx hb dX6_startOfWays_65 rfl (lv_at hl 4 rfl) ?_
        refine lv_lload hx hb dX6_startOfWays_66 (lv_at hl 2 rfl) ?_
        refine n_ladd hx hb dX6_startOfWays_68 ?_
        refine lv_lstore_n (lv' := [(1, .long (jI (sumI (fun g9 => gnV gp gt ra rb stp g9 0) q + (((nPr (gp q * ra) (stp * rb) stp 0 : Nat) : Int) * ((rb : Nat) : Int) - (gp q : Int) * ((ra : Nat) : Int)) * (gt q : Int)))), (3, .long (jI (sumI (fun g9 => gnV gp gt ra rb stp g9 1 - gnV gp gt ra rb stp g9 0) q + ((((nPr (gp q * ra) (stp * rb) stp 1 : Nat) : Int) * ((rb : Nat) : Int) - (gp q : Int) * ((ra : Nat) : Int)) * (gt q : Int) - (((nPr (gp q * ra) (stp * rb) stp 0 : Nat) : Int) * ((rb : Nat) : Int) - (gp q : Int) * ((ra : Nat) : Int)) * (gt q : Int))))), (8, .long (jI ((((nPr (gp q * ra) (stp * rb) stp 1 : Nat) : Int) * ((rb : Nat) : Int) - (gp q : Int) * ((ra : Nat) : Int)) * (gt q : Int) - (((nPr (gp q * ra) (stp * rb) stp 0 : Nat) : Int) * ((rb : Nat) : Int) - (gp q : Int) * ((ra : Nat) : Int)) * (gt q : Int)))), (6, .long (jI ((((nPr (gp q * ra) (stp * rb) stp 0 : Nat) : Int) * ((rb : Nat) : Int) - (gp q : Int) * ((ra : Nat) : Int)) * (gt q : Int)))), (0, .ref (ad x)), (5, .int (iI ((q : Nat) : Int)))]) hx hb dX6_startOfWays_69 rfl hl (by decide) rfl (fun ls hl => ?_)
        refine lv_iinc (v := iI (((q : Nat) : Int) + 1)) (lv' := [(5, .int (iI (((q : Nat) : Int) + 1))), (1, .long (jI (sumI (fun g9 => gnV gp gt ra rb stp g9 0) q + (((nPr (gp q * ra) (stp * rb) stp 0 : Nat) : Int) * ((rb : Nat) : Int) - (gp q : Int) * ((ra : Nat) : Int)) * (gt q : Int)))), (3, .long (jI (sumI (fun g9 => gnV gp gt ra rb stp g9 1 - gnV gp gt ra rb stp g9 0) q + ((((nPr (gp q * ra) (stp * rb) stp 1 : Nat) : Int) * ((rb : Nat) : Int) - (gp q : Int) * ((ra : Nat) : Int)) * (gt q : Int) - (((nPr (gp q * ra) (stp * rb) stp 0 : Nat) : Int) * ((rb : Nat) : Int) - (gp q : Int) * ((ra : Nat) : Int)) * (gt q : Int))))), (8, .long (jI ((((nPr (gp q * ra) (stp * rb) stp 1 : Nat) : Int) * ((rb : Nat) : Int) - (gp q : Int) * ((ra : Nat) : Int)) * (gt q : Int) - (((nPr (gp q * ra) (stp * rb) stp 0 : Nat) : Int) * ((rb : Nat) : Int) - (gp q : Int) * ((ra : Nat) : Int)) * (gt q : Int)))), (6, .long (jI ((((nPr (gp q * ra) (stp * rb) stp 0 : Nat) : Int) * ((rb : Nat) : Int) - (gp q : Int) * ((ra : Nat) : Int)) * (gt q : Int)))), (0, .ref (ad x))]) hx hb dX6_startOfWays_70 hl (k := 5) rfl (by first | exact iI_add _ _ | exact (iI_add _ _).trans (congrArg iI (by omega))) (by decide) rfl (fun ls hl => ?_)
        refine lv_goto (tgt := 7) hx hb dX6_startOfWays_73 (by decide) ?_
        exact ih3 (q + 1) _ _ _ _ (by omega) (by omega) hfr f_x f_L f_g f_gp f_gt (f_tu.trans (congrArg (aJ G 14) (tuF_s tu (fun g9 => gnV gp gt ra rb stp g9 1 - gnV gp gt ra rb stp g9 0) q))) hP hS (by first | exact lv_sub hl [5, 1, 2, 0] rfl | exact lv_cast (lv_sub (l' := [(0, .ref (ad x)), (1, .long (jI (sumI (fun g9 => gnV gp gt ra rb stp g9 0) q + (((nPr (gp q * ra) (stp * rb) stp 0 : Nat) : Int) * ((rb : Nat) : Int) - (gp q : Int) * ((ra : Nat) : Int)) * (gt q : Int)))), (3, .long (jI (sumI (fun g9 => gnV gp gt ra rb stp g9 1 - gnV gp gt ra rb stp g9 0) q + ((((nPr (gp q * ra) (stp * rb) stp 1 : Nat) : Int) * ((rb : Nat) : Int) - (gp q : Int) * ((ra : Nat) : Int)) * (gt q : Int) - (((nPr (gp q * ra) (stp * rb) stp 0 : Nat) : Int) * ((rb : Nat) : Int) - (gp q : Int) * ((ra : Nat) : Int)) * (gt q : Int))))), (5, .int (iI (((q : Nat) : Int) + 1)))]) hl [5, 1, 2, 0] rfl) (lc_s (lc_j (show ((sumI (fun g9 => gnV gp gt ra rb stp g9 0) q + (((nPr (gp q * ra) (stp * rb) stp 0 : Nat) : Int) * ((rb : Nat) : Int) - (gp q : Int) * ((ra : Nat) : Int)) * (gt q : Int)) : Int) = sumI (fun g9 => gnV gp gt ra rb stp g9 0) (q + 1) by rfl) (lc_j (show ((sumI (fun g9 => gnV gp gt ra rb stp g9 1 - gnV gp gt ra rb stp g9 0) q + ((((nPr (gp q * ra) (stp * rb) stp 1 : Nat) : Int) * ((rb : Nat) : Int) - (gp q : Int) * ((ra : Nat) : Int)) * (gt q : Int) - (((nPr (gp q * ra) (stp * rb) stp 0 : Nat) : Int) * ((rb : Nat) : Int) - (gp q : Int) * ((ra : Nat) : Int)) * (gt q : Int))) : Int) = sumI (fun g9 => gnV gp gt ra rb stp g9 1 - gnV gp gt ra rb stp g9 0) (q + 1) by rfl) (lc_i (show ((((q : Nat) : Int) + 1) : Int) = (((q + 1) : Nat) : Int) by omega) rfl)))))
  exact lp1 (gn - 0 + 1) 0 _ _ _ _ (Nat.lt_succ_self _) (by omega) hfr f_x f_L f_g f_gp f_gt (f_tu.trans (by rw [tuF_0])) hP hS (by first | exact lv_sub hl [3, 2, 1, 0] rfl | exact lv_cast (lv_sub (l' := [(0, .ref (ad x)), (1, .long (jI 0)), (3, .long (jI 0)), (5, .int (iI 0))]) hl [3, 2, 1, 0] rfl) (lc_s (lc_j (show (0 : Int) = sumI (fun g9 => gnV gp gt ra rb stp g9 0) 0 by omega) (lc_j (show (0 : Int) = sumI (fun g9 => gnV gp gt ra rb stp g9 1 - gnV gp gt ra rb stp g9 0) 0 by omega) (lc_i (show (0 : Int) = ((0 : Nat) : Int) by omega) rfl)))))
set_option maxHeartbeats 4000000 in
set_option maxRecDepth 100000 in
theorem c_X6_fairest {l : Launch} {G : nG} {N : Nat} {ad : Nat → Nat} {w : Nat → va_E} {sz : Nat} (x b tn ra rb stp : Nat) (gn : Nat) (gp gt : Nat → Nat) (tu : Nat → Int) (hN : x + 218 < N) (hxb : b = x + 1) (htn : tn ≤ 4) (hra : 1 ≤ ra ∧ ra ≤ 100) (hrb : 1 ≤ rb ∧ rb ≤ 100) (hst : 1 ≤ stp ∧ stp ≤ 100) (hgp : ∀ k, gp k ≤ 10000) (hgt : ∀ k, gt k ≤ 100) (hg : gn ≤ 14) (f_x : w x = .inr (6, [.ref (ad b), .ref (ad (x + 51)), .ref (ad (x + 52)), .ref (ad (x + 53)), .ref (ad (x + 67)), .ref (ad (x + 68))])) (f_L : w b = .inr (4, [.ref (ad (b + 1)), .ref (ad (b + 5)), .ref (ad (b + 9)), .ref (ad (b + 12)), .ref (ad (b + 13)), .int (iI ((tn : Nat) : Int)), .int (iI ((ra : Nat) : Int)), .int (iI ((rb : Nat) : Int)), .int (iI ((stp : Nat) : Int))])) (f_g : w (b + 9) = .inr (3, [.int (iI ((gn : Nat) : Int)), .ref (ad ((b + 9) + 1)), .ref (ad ((b + 9) + 2))])) (f_gp : w ((b + 9) + 1) = aI G 14 (fun q => (gp q : Int))) (f_gt : w ((b + 9) + 2) = aI G 14 (fun q => (gt q : Int))) (f_tu : w (x + 68) = aJ G 14 tu) : Met l yX6_fairest wsX6_fairest ({ frames := 4, cells := 0, slots := 0, locals := 102 }) (va_Pc [.ref (ad x)] (nB G N ad w sz)) (nPi G N ad sz (fun r u => (∀ j, j ≠ (x + 68) → u j = w j) ∧ (r = (faB (alW (sumI (fun g9 => gnV gp gt ra rb stp g9 0) gn) (tuF tu (fun g9 => gnV gp gt ra rb stp g9 1 - gnV gp gt ra rb stp g9 0) gn)) (2 ^ gn - 1) : Nat)) ∧ (u (x + 68) = aJ G 14 (tuF tu (fun g9 => gnV gp gt ra rb stp g9 1 - gnV gp gt ra rb stp g9 0) gn)))) 0 0 (nA N ad sz) := by
  refine n_ent (cc := cX6_fairest) (maxL := 9) (ret := (some .int)) (by decide) rfl (Nat.le_of_ble_eq_true rfl) ?_
  intro p e s m below meth cd hx hb hr hml hlocks hts hown hnm hsz hP hK hI Q hQ ls hl
  have hown : s.vm.findClass RX6 = some m.cls := hown
  subst hsz
  have hJ := hI.J s.heap.size
  have hS : va_S (nA N ad s.heap.size) s.heap s.heap [] := va_S.rf
  have hfr : ∀ j, j ≠ (x + 68) → w j = w j := fun _ _ => rfl
  have hl : lv_has ls 9 [(0, .ref (ad x))] := hl
  have hD : ∀ k, k < gn → -4000000000000 ≤ gnV gp gt ra rb stp k 1 - gnV gp gt ra rb stp k 0 ∧ gnV gp gt ra rb stp k 1 - gnV gp gt ra rb stp k 0 ≤ 4000000000000 := fun k _ => by have h1 := gnV_rng (ru := 1) (hgp k) (hgt k) hra.2 hrb.2 hst.2; have h2 := gnV_rng (ru := 0) (hgp k) (hgt k) hra.2 hrb.2 hst.2; omega
  have hbs := sumI_rng (f := (fun g9 => gnV gp gt ra rb stp g9 0)) (B := 2000000000000) (by decide) gn (fun k _ => gnV_rng (ru := 0) (hgp k) (hgt k) hra.2 hrb.2 hst.2)
  have hal := alW_rng (base := sumI (fun g9 => gnV gp gt ra rb stp g9 0) gn) (tu := (tuF tu (fun g9 => gnV gp gt ra rb stp g9 1 - gnV gp gt ra rb stp g9 0) gn)) hg (by omega) (tuF_rng hg hD)
  have hp2 : 2 ^ gn ≤ 2 ^ 14 := Nat.pow_le_pow_right (by decide) hg
  have hp0 : 0 < 2 ^ gn := Nat.two_pow_pos gn
  have ha0 := hal 0 hp0
  refine lv_aload_n hx hb dX6_fairest_0 rfl (lv_at hl 0 rfl) ?_
  refine n_cL (va_runV (As := []) (rest := []) ⟨hx, hb, hml, hown, hts⟩ (c_X6_startOfWays x b tn ra rb stp gn gp gt tu hN hxb htn hra hrb hst hgp hgt hg f_x f_L f_g f_gp f_gt f_tu) (cwV 0 hts (nT_V wl_X6_96 wi_X6_startOfWays ws_X6_startOfWays wn_X6 wc_X6_startOfWays) rfl rfl rfl (by decide +kernel) ⟨Nat.le_of_ble_eq_true rfl, Nat.le_of_ble_eq_true rfl⟩) (nB.preV hK hI hP (by omega) f_x rfl rfl) rfl rfl hl.1 rfl (lv_room (Nat.le_of_ble_eq_true rfl)) dX6_fairest_1 ⟨Nat.zero_le _, Nat.zero_le _⟩) hS (fun r2 w1 H locs hq3 hP hS => ?_)
  obtain ⟨hne4, hr9, hp9⟩ := hq3
  have f_x := (hne4 x (by omega)).trans f_x
  have f_L := (hne4 b (by omega)).trans f_L
  have f_g := (hne4 (b + 9) (by omega)).trans f_g
  have f_gp := (hne4 ((b + 9) + 1) (by omega)).trans f_gp
  have f_gt := (hne4 ((b + 9) + 2) (by omega)).trans f_gt
  have f_tu : w1 (x + 68) = aJ G 14 (tuF tu (fun g9 => gnV gp gt ra rb stp g9 1 - gnV gp gt ra rb stp g9 0) gn) := hp9
  have hfr : ∀ j, j ≠ (x + 68) → w1 j = w j := fun j a0 => (hne4 j (by omega)).trans (hfr j a0)
  subst hr9
  refine lv_lstore_n (lv' := [(1, .long (jI (alW (sumI (fun g9 => gnV gp gt ra rb stp g9 0) gn) (tuF tu (fun g9 => gnV gp gt ra rb stp g9 1 - gnV gp gt ra rb stp g9 0) gn) 0))), (0, .ref (ad x))]) hx hb dX6_fairest_4 rfl hl (by decide) rfl (fun ls hl => ?_)
  refine lv_lload_n hx hb dX6_fairest_5 rfl (lv_at hl 0 rfl) ?_
  refine n_mabs hx hb (hml.trans hl.1.symm) hown (hts _ (nT_m wl_X6_100)) (hts _ (nT_m wt_J9_abs_067f4)) (hts _ (nT_m wn_J9)) (hts _ (nT_m wc_J9_abs_067f4)) (Nat.le_of_ble_eq_true rfl) (Nat.le_of_ble_eq_true rfl) (Nat.zero_le _) (Nat.zero_le _) (by omega) dX6_fairest_6 ?_
  refine lv_lstore_n (lv' := [(3, .long (jI (max (alW (sumI (fun g9 => gnV gp gt ra rb stp g9 0) gn) (tuF tu (fun g9 => gnV gp gt ra rb stp g9 1 - gnV gp gt ra rb stp g9 0) gn) 0) (-(alW (sumI (fun g9 => gnV gp gt ra rb stp g9 0) gn) (tuF tu (fun g9 => gnV gp gt ra rb stp g9 1 - gnV gp gt ra rb stp g9 0) gn) 0))))), (1, .long (jI (alW (sumI (fun g9 => gnV gp gt ra rb stp g9 0) gn) (tuF tu (fun g9 => gnV gp gt ra rb stp g9 1 - gnV gp gt ra rb stp g9 0) gn) 0))), (0, .ref (ad x))]) hx hb dX6_fairest_9 rfl hl (by decide) rfl (fun ls hl => ?_)
  refine n_iconst hx hb dX6_fairest_10 ?_
  refine lv_istore (lv' := [(5, .int (iI 0)), (3, .long (jI (max (alW (sumI (fun g9 => gnV gp gt ra rb stp g9 0) gn) (tuF tu (fun g9 => gnV gp gt ra rb stp g9 1 - gnV gp gt ra rb stp g9 0) gn) 0) (-(alW (sumI (fun g9 => gnV gp gt ra rb stp g9 0) gn) (tuF tu (fun g9 => gnV gp gt ra rb stp g9 1 - gnV gp gt ra rb stp g9 0) gn) 0))))), (1, .long (jI (alW (sumI (fun g9 => gnV gp gt ra rb stp g9 0) gn) (tuF tu (fun g9 => gnV gp gt ra rb stp g9 1 - gnV gp gt ra rb stp g9 0) gn) 0))), (0, .ref (ad x))]) hx hb dX6_fairest_11 hl (by decide) rfl (fun ls hl => ?_)
  refine n_iconst hx hb dX6_fairest_13 ?_
  refine lv_aload_n hx hb dX6_fairest_14 rfl (lv_at hl 3 rfl) ?_
  refine n_get hx hb hts u_X6 hown hK hP (by omega) f_x rfl 0 (by decide) (nT_m wf_X6_10) rfl dX6_fairest_15 ?_
  refine n_get hx hb hts u_X4 hown hK hP (by omega) f_L rfl 2 (by decide) (nT_m wf_X6_64) rfl dX6_fairest_18 ?_
  refine n_get hx hb hts u_X3 hown hK hP (by omega) f_g rfl 0 (by decide) (nT_m wf_X6_89) rfl dX6_fairest_21 ?_
  refine n_shl1 hx hb gn (by omega) dX6_fairest_24 ?_
  refine lv_istore (lv' := [(6, .int (iI ((2 ^ gn : Nat) : Int))), (5, .int (iI 0)), (3, .long (jI (max (alW (sumI (fun g9 => gnV gp gt ra rb stp g9 0) gn) (tuF tu (fun g9 => gnV gp gt ra rb stp g9 1 - gnV gp gt ra rb stp g9 0) gn) 0) (-(alW (sumI (fun g9 => gnV gp gt ra rb stp g9 0) gn) (tuF tu (fun g9 => gnV gp gt ra rb stp g9 1 - gnV gp gt ra rb stp g9 0) gn) 0))))), (1, .long (jI (alW (sumI (fun g9 => gnV gp gt ra rb stp g9 0) gn) (tuF tu (fun g9 => gnV gp gt ra rb stp g9 1 - gnV gp gt ra rb stp g9 0) gn) 0))), (0, .ref (ad x))]) hx hb dX6_fairest_25 hl (by decide) rfl (fun ls hl => ?_)
  refine n_iconst hx hb dX6_fairest_27 ?_
  refine lv_istore (lv' := [(7, .int (iI 1)), (6, .int (iI ((2 ^ gn : Nat) : Int))), (5, .int (iI 0)), (3, .long (jI (max (alW (sumI (fun g9 => gnV gp gt ra rb stp g9 0) gn) (tuF tu (fun g9 => gnV gp gt ra rb stp g9 1 - gnV gp gt ra rb stp g9 0) gn) 0) (-(alW (sumI (fun g9 => gnV gp gt ra rb stp g9 0) gn) (tuF tu (fun g9 => gnV gp gt ra rb stp g9 1 - gnV gp gt ra rb stp g9 0) gn) 0))))), (1, .long (jI (alW (sumI (fun g9 => gnV gp gt ra rb stp g9 0) gn) (tuF tu (fun g9 => gnV gp gt ra rb stp g9 1 - gnV gp gt ra rb stp g9 0) gn) 0))), (0, .ref (ad x))]) hx hb dX6_fairest_28 hl (by decide) rfl (fun ls hl => ?_)
  have lp5 : ∀ (fu : Nat), ∀ (v : Nat), ∀ (w6 : Nat → va_E) (H : Heap) (locs : List Loc), ∀ (ls : Array Slot), 2 ^ gn - v < fu → v < 2 ^ gn → (∀ j, j ≠ (x + 68) → w6 j = w j) → w6 x = .inr (6, [.ref (ad b), .ref (ad (x + 51)), .ref (ad (x + 52)), .ref (ad (x + 53)), .ref (ad (x + 67)), .ref (ad (x + 68))]) → w6 b = .inr (4, [.ref (ad (b + 1)), .ref (ad (b + 5)), .ref (ad (b + 9)), .ref (ad (b + 12)), .ref (ad (b + 13)), .int (iI ((tn : Nat) : Int)), .int (iI ((ra : Nat) : Int)), .int (iI ((rb : Nat) : Int)), .int (iI ((stp : Nat) : Int))]) → w6 (b + 9) = .inr (3, [.int (iI ((gn : Nat) : Int)), .ref (ad ((b + 9) + 1)), .ref (ad ((b + 9) + 2))]) → w6 ((b + 9) + 1) = aI G 14 (fun q => (gp q : Int)) → w6 ((b + 9) + 2) = aI G 14 (fun q => (gt q : Int)) → w6 (x + 68) = aJ G 14 (tuF tu (fun g9 => gnV gp gt ra rb stp g9 1 - gnV gp gt ra rb stp g9 0) gn) → va_P G.1 vwCl (nL N ad w6) H → va_S (nA N ad s.heap.size) s.heap H locs → lv_has ls 9 [(0, .ref (ad x)), (1, .long (jI ((alW (sumI (fun g9 => gnV gp gt ra rb stp g9 0) gn) (tuF tu (fun g9 => gnV gp gt ra rb stp g9 1 - gnV gp gt ra rb stp g9 0) gn)) v))), (3, .long (jI (faN (alW (sumI (fun g9 => gnV gp gt ra rb stp g9 0) gn) (tuF tu (fun g9 => gnV gp gt ra rb stp g9 1 - gnV gp gt ra rb stp g9 0) gn)) v))), (5, .int (iI ((faB (alW (sumI (fun g9 => gnV gp gt ra rb stp g9 0) gn) (tuF tu (fun g9 => gnV gp gt ra rb stp g9 1 - gnV gp gt ra rb stp g9 0) gn)) v : Nat) : Int))), (6, .int (iI ((2 ^ gn : Nat) : Int))), (7, .int (iI ((v + 1 : Nat) : Int)))] → W p l e ({ frames := 4, cells := 0, slots := 0, locals := 102 } : Room) s m ([.ref (ad x)] : List Value).toArray below meth cd H locs 0 0 Q (F0 m 30 ls []) := by
    intro fu
    induction fu with
    | zero =>
      intro v w6 H locs ls hfu hv hfr f_x f_L f_g f_gp f_gt f_tu hP hS hl
      exact absurd hfu (Nat.not_lt_zero _)
    | succ fu ih7 =>
      intro v w6 H locs ls hfu hv hfr f_x f_L f_g f_gp f_gt f_tu hP hS hl
      have hav := hal v hv
      have hn0 := faN_0 (alW (sumI (fun g9 => gnV gp gt ra rb stp g9 0) gn) (tuF tu (fun g9 => gnV gp gt ra rb stp g9 1 - gnV gp gt ra rb stp g9 0) gn)) v
      have hnl := faN_le (alW (sumI (fun g9 => gnV gp gt ra rb stp g9 0) gn) (tuF tu (fun g9 => gnV gp gt ra rb stp g9 1 - gnV gp gt ra rb stp g9 0) gn)) v
      have hbl := faB_le (alW (sumI (fun g9 => gnV gp gt ra rb stp g9 0) gn) (tuF tu (fun g9 => gnV gp gt ra rb stp g9 1 - gnV gp gt ra rb stp g9 0) gn)) v
      refine lv_iload hx hb dX6_fairest_30 (lv_at hl 5 rfl) ?_
      refine lv_iload hx hb dX6_fairest_32 (lv_at hl 4 rfl) ?_
      refine n_icmp_ge (tgt := 90) hx hb dX6_fairest_34 (by decide) (by omega) (by omega) (fun hc34 => ?_) (fun hc34 => ?_)
      · skip
        refine lv_iload hx hb dX6_fairest_90 (lv_at hl 3 rfl) ?_
        refine n_iretP hQ hx hb hr hlocks hP hS dX6_fairest_92 ?_
        exact ⟨hfr, by rw [show 2 ^ gn - 1 = v by omega], f_tu⟩
      · skip
        have hcm := cmpI_rng (faN (alW (sumI (fun g9 => gnV gp gt ra rb stp g9 0) gn) (tuF tu (fun g9 => gnV gp gt ra rb stp g9 1 - gnV gp gt ra rb stp g9 0) gn)) v) 0
        have hv1 : v + 1 < 2 ^ gn := by omega
        have ha1 := hal (v + 1) hv1
        have hcz := ctz_lt hg (by omega) hv1
        have ea : (alW (sumI (fun g9 => gnV gp gt ra rb stp g9 0) gn) (tuF tu (fun g9 => gnV gp gt ra rb stp g9 1 - gnV gp gt ra rb stp g9 0) gn)) (v + 1) = (alW (sumI (fun g9 => gnV gp gt ra rb stp g9 0) gn) (tuF tu (fun g9 => gnV gp gt ra rb stp g9 1 - gnV gp gt ra rb stp g9 0) gn)) v + (tuF tu (fun g9 => gnV gp gt ra rb stp g9 1 - gnV gp gt ra rb stp g9 0) gn) (ctz (v + 1)) := rfl
        refine lv_lload_n hx hb dX6_fairest_37 rfl (lv_at hl 2 rfl) ?_
        refine n_lconst (z := 0) hx hb dX6_fairest_38 (by decide) ?_
        refine n_lcmp hx hb dX6_fairest_39 (by omega) (by omega) ?_
        refine n_if_le (tgt := 90) hx hb dX6_fairest_40 (by decide) (by omega) (fun hc40 => ?_) (fun hc40 => ?_)
        · skip
          refine lv_iload hx hb dX6_fairest_90 (lv_at hl 3 rfl) ?_
          refine n_iretP hQ hx hb hr hlocks hP hS dX6_fairest_92 ?_
          exact ⟨hfr, by rw [show 2 ^ gn - 1 = v + (2 ^ gn - 1 - v) by omega, (faB_st (Int.not_lt.mp (fun h9 => absurd (cmpI_gt.mpr h9) (by omega))) _).1], f_tu⟩
        · skip
          refine lv_iload hx hb dX6_fairest_43 (lv_at hl 5 rfl) ?_
          refine lv_iload hx hb dX6_fairest_45 (lv_at hl 5 rfl) ?_
          refine n_ineg hx hb dX6_fairest_47 ?_
          refine lv_iand hx hb dX6_fairest_48 ?_
          refine n_iconst hx hb dX6_fairest_49 ?_
          refine lv_isub hx hb dX6_fairest_50 ?_
          refine n_rdF (va_runS (As := [.int ((iI ((v + 1 : Nat) : Int) &&& iI (-((v + 1 : Nat) : Int))) - iI 1)]) (rest := []) ⟨hx, hb, hml, hown, hts⟩ (c_bit_ctz (v + 1) (by omega) (by omega)) (va_cwS 1 hts (nT_S wl_X6_106 wt_J6_bitCount_0f7a4 wn_J6 wc_J6_bitCount_0f7a4) rfl rfl rfl (by decide +kernel) ⟨Nat.le_of_ble_eq_true rfl, Nat.le_of_ble_eq_true rfl⟩) preEq rfl rfl hl.1 rfl (lv_room (Nat.le_of_ble_eq_true rfl)) dX6_fairest_51 ⟨Nat.zero_le _, Nat.zero_le _⟩) ?_
          refine lv_istore (lv' := [(8, .int (iI ((ctz (v + 1) : Nat) : Int))), (0, .ref (ad x)), (1, .long (jI ((alW (sumI (fun g9 => gnV gp gt ra rb stp g9 0) gn) (tuF tu (fun g9 => gnV gp gt ra rb stp g9 1 - gnV gp gt ra rb stp g9 0) gn)) v))), (3, .long (jI (faN (alW (sumI (fun g9 => gnV gp gt ra rb stp g9 0) gn) (tuF tu (fun g9 => gnV gp gt ra rb stp g9 1 - gnV gp gt ra rb stp g9 0) gn)) v))), (5, .int (iI ((faB (alW (sumI (fun g9 => gnV gp gt ra rb stp g9 0) gn) (tuF tu (fun g9 => gnV gp gt ra rb stp g9 1 - gnV gp gt ra rb stp g9 0) gn)) v : Nat) : Int))), (6, .int (iI ((2 ^ gn : Nat) : Int))), (7, .int (iI ((v + 1 : Nat) : Int)))]) hx hb dX6_fairest_54 hl (by decide) rfl (fun ls hl => ?_)
          refine lv_lload_n hx hb dX6_fairest_56 rfl (lv_at hl 2 rfl) ?_
          refine lv_aload_n hx hb dX6_fairest_57 rfl (lv_at hl 1 rfl) ?_
          refine n_get hx hb hts u_X6 hown hK hP (by omega) f_x rfl 5 (by decide) (nT_m wf_X6_35) rfl dX6_fairest_58 ?_
          refine lv_iload hx hb dX6_fairest_61 (lv_at hl 0 rfl) ?_
          refine n_lald hx hb hK hP (ctz (v + 1)) (by omega) f_tu (by omega) (by omega) (by decide) dX6_fairest_63 ?_
          refine n_ladd hx hb dX6_fairest_64 ?_
          refine lv_lstore_n (lv' := [(1, .long (jI ((alW (sumI (fun g9 => gnV gp gt ra rb stp g9 0) gn) (tuF tu (fun g9 => gnV gp gt ra rb stp g9 1 - gnV gp gt ra rb stp g9 0) gn)) v + (tuF tu (fun g9 => gnV gp gt ra rb stp g9 1 - gnV gp gt ra rb stp g9 0) gn) (ctz (v + 1))))), (8, .int (iI ((ctz (v + 1) : Nat) : Int))), (0, .ref (ad x)), (3, .long (jI (faN (alW (sumI (fun g9 => gnV gp gt ra rb stp g9 0) gn) (tuF tu (fun g9 => gnV gp gt ra rb stp g9 1 - gnV gp gt ra rb stp g9 0) gn)) v))), (5, .int (iI ((faB (alW (sumI (fun g9 => gnV gp gt ra rb stp g9 0) gn) (tuF tu (fun g9 => gnV gp gt ra rb stp g9 1 - gnV gp gt ra rb stp g9 0) gn)) v : Nat) : Int))), (6, .int (iI ((2 ^ gn : Nat) : Int))), (7, .int (iI ((v + 1 : Nat) : Int)))]) hx hb dX6_fairest_65 rfl hl (by decide) rfl (fun ls hl => ?_)
          refine lv_lload_n hx hb dX6_fairest_66 rfl (lv_at hl 0 rfl) ?_
          refine n_mabs hx hb (hml.trans hl.1.symm) hown (hts _ (nT_m wl_X6_100)) (hts _ (nT_m wt_J9_abs_067f4)) (hts _ (nT_m wn_J9)) (hts _ (nT_m wc_J9_abs_067f4)) (Nat.le_of_ble_eq_true rfl) (Nat.le_of_ble_eq_true rfl) (Nat.zero_le _) (Nat.zero_le _) (by omega) dX6_fairest_67 ?_
          refine lv_lload_n hx hb dX6_fairest_70 rfl (lv_at hl 3 rfl) ?_
          refine n_lcmp hx hb dX6_fairest_71 (by omega) (by omega) ?_
          have hcm2 := cmpI_rng (max ((alW (sumI (fun g9 => gnV gp gt ra rb stp g9 0) gn) (tuF tu (fun g9 => gnV gp gt ra rb stp g9 1 - gnV gp gt ra rb stp g9 0) gn)) v + (tuF tu (fun g9 => gnV gp gt ra rb stp g9 1 - gnV gp gt ra rb stp g9 0) gn) (ctz (v + 1))) (-((alW (sumI (fun g9 => gnV gp gt ra rb stp g9 0) gn) (tuF tu (fun g9 => gnV gp gt ra rb stp g9 1 - gnV gp gt ra rb stp g9 0) gn)) v + (tuF tu (fun g9 => gnV gp gt ra rb stp g9 1 - gnV gp gt ra rb stp g9 0) gn) (ctz (v + 1))))) (faN (alW (sumI (fun g9 => gnV gp gt ra rb stp g9 0) gn) (tuF tu (fun g9 => gnV gp gt ra rb stp g9 1 - gnV gp gt ra rb stp g9 0) gn)) v)
          refine n_if_ge (tgt := 84) hx hb dX6_fairest_72 (by decide) (by omega) (fun hc72 => ?_) (fun hc72 => ?_)
          · skip
            have hlt : ¬ max ((alW (sumI (fun g9 => gnV gp gt ra rb stp g9 0) gn) (tuF tu (fun g9 => gnV gp gt ra rb stp g9 1 - gnV gp gt ra rb stp g9 0) gn)) (v + 1)) (-((alW (sumI (fun g9 => gnV gp gt ra rb stp g9 0) gn) (tuF tu (fun g9 => gnV gp gt ra rb stp g9 1 - gnV gp gt ra rb stp g9 0) gn)) (v + 1))) < faN (alW (sumI (fun g9 => gnV gp gt ra rb stp g9 0) gn) (tuF tu (fun g9 => gnV gp gt ra rb stp g9 1 - gnV gp gt ra rb stp g9 0) gn)) v := fun h9 => absurd (cmpI_lt.mpr h9) (Int.not_lt.mpr hc72)
            refine lv_iinc (v := iI (((v + 1 : Nat) : Int) + 1)) (lv' := [(7, .int (iI (((v + 1 : Nat) : Int) + 1))), (1, .long (jI ((alW (sumI (fun g9 => gnV gp gt ra rb stp g9 0) gn) (tuF tu (fun g9 => gnV gp gt ra rb stp g9 1 - gnV gp gt ra rb stp g9 0) gn)) v + (tuF tu (fun g9 => gnV gp gt ra rb stp g9 1 - gnV gp gt ra rb stp g9 0) gn) (ctz (v + 1))))), (8, .int (iI ((ctz (v + 1) : Nat) : Int))), (0, .ref (ad x)), (3, .long (jI (faN (alW (sumI (fun g9 => gnV gp gt ra rb stp g9 0) gn) (tuF tu (fun g9 => gnV gp gt ra rb stp g9 1 - gnV gp gt ra rb stp g9 0) gn)) v))), (5, .int (iI ((faB (alW (sumI (fun g9 => gnV gp gt ra rb stp g9 0) gn) (tuF tu (fun g9 => gnV gp gt ra rb stp g9 1 - gnV gp gt ra rb stp g9 0) gn)) v : Nat) : Int))), (6, .int (iI ((2 ^ gn : Nat) : Int)))]) hx hb dX6_fairest_84 hl (k := 6) rfl (by first | exact iI_add _ _ | exact (iI_add _ _).trans (congrArg iI (by omega))) (by decide) rfl (fun ls hl => ?_)
            refine lv_goto (tgt := 30) hx hb dX6_fairest_87 (by decide) ?_
            exact ih7 (v + 1) _ _ _ _ (by omega) (by omega) hfr f_x f_L f_g f_gp f_gt f_tu hP hS (by first | exact lv_sub hl [3, 1, 4, 5, 6, 0] rfl | exact lv_cast (lv_sub (l' := [(0, .ref (ad x)), (1, .long (jI ((alW (sumI (fun g9 => gnV gp gt ra rb stp g9 0) gn) (tuF tu (fun g9 => gnV gp gt ra rb stp g9 1 - gnV gp gt ra rb stp g9 0) gn)) v + (tuF tu (fun g9 => gnV gp gt ra rb stp g9 1 - gnV gp gt ra rb stp g9 0) gn) (ctz (v + 1))))), (3, .long (jI (faN (alW (sumI (fun g9 => gnV gp gt ra rb stp g9 0) gn) (tuF tu (fun g9 => gnV gp gt ra rb stp g9 1 - gnV gp gt ra rb stp g9 0) gn)) v))), (5, .int (iI ((faB (alW (sumI (fun g9 => gnV gp gt ra rb stp g9 0) gn) (tuF tu (fun g9 => gnV gp gt ra rb stp g9 1 - gnV gp gt ra rb stp g9 0) gn)) v : Nat) : Int))), (6, .int (iI ((2 ^ gn : Nat) : Int))), (7, .int (iI (((v + 1 : Nat) : Int) + 1)))]) hl [3, 1, 4, 5, 6, 0] rfl) (lc_s (lc_j (show (((alW (sumI (fun g9 => gnV gp gt ra rb stp g9 0) gn) (tuF tu (fun g9 => gnV gp gt ra rb stp g9 1 - gnV gp gt ra rb stp g9 0) gn)) v + (tuF tu (fun g9 => gnV gp gt ra rb stp g9 1 - gnV gp gt ra rb stp g9 0) gn) (ctz (v + 1))) : Int) = (alW (sumI (fun g9 => gnV gp gt ra rb stp g9 0) gn) (tuF tu (fun g9 => gnV gp gt ra rb stp g9 1 - gnV gp gt ra rb stp g9 0) gn)) (v + 1) by rfl) (lc_j (show (faN (alW (sumI (fun g9 => gnV gp gt ra rb stp g9 0) gn) (tuF tu (fun g9 => gnV gp gt ra rb stp g9 1 - gnV gp gt ra rb stp g9 0) gn)) v : Int) = faN (alW (sumI (fun g9 => gnV gp gt ra rb stp g9 0) gn) (tuF tu (fun g9 => gnV gp gt ra rb stp g9 1 - gnV gp gt ra rb stp g9 0) gn)) (v + 1) by exact (faN_n hlt).symm) (lc_i (show (((faB (alW (sumI (fun g9 => gnV gp gt ra rb stp g9 0) gn) (tuF tu (fun g9 => gnV gp gt ra rb stp g9 1 - gnV gp gt ra rb stp g9 0) gn)) v : Nat) : Int) : Int) = ((faB (alW (sumI (fun g9 => gnV gp gt ra rb stp g9 0) gn) (tuF tu (fun g9 => gnV gp gt ra rb stp g9 1 - gnV gp gt ra rb stp g9 0) gn)) (v + 1) : Nat) : Int) by rw [faB_n hlt]) (lc_s (lc_i (show ((((v + 1 : Nat) : Int) + 1) : Int) = (((v + 1) + 1 : Nat) : Int) by omega) rfl)))))))
          · skip
            have hlt : max ((alW (sumI (fun g9 => gnV gp gt ra rb stp g9 0) gn) (tuF tu (fun g9 => gnV gp gt ra rb stp g9 1 - gnV gp gt ra rb stp g9 0) gn)) (v + 1)) (-((alW (sumI (fun g9 => gnV gp gt ra rb stp g9 0) gn) (tuF tu (fun g9 => gnV gp gt ra rb stp g9 1 - gnV gp gt ra rb stp g9 0) gn)) (v + 1))) < faN (alW (sumI (fun g9 => gnV gp gt ra rb stp g9 0) gn) (tuF tu (fun g9 => gnV gp gt ra rb stp g9 1 - gnV gp gt ra rb stp g9 0) gn)) v := cmpI_lt.mp hc72
            refine lv_lload_n hx hb dX6_fairest_75 rfl (lv_at hl 0 rfl) ?_
            refine n_mabs hx hb (hml.trans hl.1.symm) hown (hts _ (nT_m wl_X6_100)) (hts _ (nT_m wt_J9_abs_067f4)) (hts _ (nT_m wn_J9)) (hts _ (nT_m wc_J9_abs_067f4)) (Nat.le_of_ble_eq_true rfl) (Nat.le_of_ble_eq_true rfl) (Nat.zero_le _) (Nat.zero_le _) (by omega) dX6_fairest_76 ?_
            refine lv_lstore_n (lv' := [(3, .long (jI (max ((alW (sumI (fun g9 => gnV gp gt ra rb stp g9 0) gn) (tuF tu (fun g9 => gnV gp gt ra rb stp g9 1 - gnV gp gt ra rb stp g9 0) gn)) v + (tuF tu (fun g9 => gnV gp gt ra rb stp g9 1 - gnV gp gt ra rb stp g9 0) gn) (ctz (v + 1))) (-((alW (sumI (fun g9 => gnV gp gt ra rb stp g9 0) gn) (tuF tu (fun g9 => gnV gp gt ra rb stp g9 1 - gnV gp gt ra rb stp g9 0) gn)) v + (tuF tu (fun g9 => gnV gp gt ra rb stp g9 1 - gnV gp gt ra rb stp g9 0) gn) (ctz (v + 1))))))), (1, .long (jI ((alW (sumI (fun g9 => gnV gp gt ra rb stp g9 0) gn) (tuF tu (fun g9 => gnV gp gt ra rb stp g9 1 - gnV gp gt ra rb stp g9 0) gn)) v + (tuF tu (fun g9 => gnV gp gt ra rb stp g9 1 - gnV gp gt ra rb stp g9 0) gn) (ctz (v + 1))))), (8, .int (iI ((ctz (v + 1) : Nat) : Int))), (0, .ref (ad x)), (5, .int (iI ((faB (alW (sumI (fun g9 => gnV gp gt ra rb stp g9 0) gn) (tuF tu (fun g9 => gnV gp gt ra rb stp g9 1 - gnV gp gt ra rb stp g9 0) gn)) v : Nat) : Int))), (6, .int (iI ((2 ^ gn : Nat) : Int))), (7, .int (iI ((v + 1 : Nat) : Int)))]) hx hb dX6_fairest_79 rfl hl (by decide) rfl (fun ls hl => ?_)
            refine lv_iload hx hb dX6_fairest_80 (lv_at hl 6 rfl) ?_
            refine lv_istore (lv' := [(5, .int (iI ((v + 1 : Nat) : Int))), (3, .long (jI (max ((alW (sumI (fun g9 => gnV gp gt ra rb stp g9 0) gn) (tuF tu (fun g9 => gnV gp gt ra rb stp g9 1 - gnV gp gt ra rb stp g9 0) gn)) v + (tuF tu (fun g9 => gnV gp gt ra rb stp g9 1 - gnV gp gt ra rb stp g9 0) gn) (ctz (v + 1))) (-((alW (sumI (fun g9 => gnV gp gt ra rb stp g9 0) gn) (tuF tu (fun g9 => gnV gp gt ra rb stp g9 1 - gnV gp gt ra rb stp g9 0) gn)) v + (tuF tu (fun g9 => gnV gp gt ra rb stp g9 1 - gnV gp gt ra rb stp g9 0) gn) (ctz (v + 1))))))), (1, .long (jI ((alW (sumI (fun g9 => gnV gp gt ra rb stp g9 0) gn) (tuF tu (fun g9 => gnV gp gt ra rb stp g9 1 - gnV gp gt ra rb stp g9 0) gn)) v + (tuF tu (fun g9 => gnV gp gt ra rb stp g9 1 - gnV gp gt ra rb stp g9 0) gn) (ctz (v + 1))))), (8, .int (iI ((ctz (v + 1) : Nat) : Int))), (0, .ref (ad x)), (6, .int (iI ((2 ^ gn : Nat) : Int))), (7, .int (iI ((v + 1 : Nat) : Int)))]) hx hb dX6_fairest_82 hl (by decide) rfl (fun ls hl => ?_)
            refine lv_iinc (v := iI (((v + 1 : Nat) : Int) + 1)) (lv' := [(7, .int (iI (((v + 1 : Nat) : Int) + 1))), (5, .int (iI ((v + 1 : Nat) : Int))), (3, .long (jI (max ((alW (sumI (fun g9 => gnV gp gt ra rb stp g9 0) gn) (tuF tu (fun g9 => gnV gp gt ra rb stp g9 1 - gnV gp gt ra rb stp g9 0) gn)) v + (tuF tu (fun g9 => gnV gp gt ra rb stp g9 1 - gnV gp gt ra rb stp g9 0) gn) (ctz (v + 1))) (-((alW (sumI (fun g9 => gnV gp gt ra rb stp g9 0) gn) (tuF tu (fun g9 => gnV gp gt ra rb stp g9 1 - gnV gp gt ra rb stp g9 0) gn)) v + (tuF tu (fun g9 => gnV gp gt ra rb stp g9 1 - gnV gp gt ra rb stp g9 0) gn) (ctz (v + 1))))))), (1, .long (jI ((alW (sumI (fun g9 => gnV gp gt ra rb stp g9 0) gn) (tuF tu (fun g9 => gnV gp gt ra rb stp g9 1 - gnV gp gt ra rb stp g9 0) gn)) v + (tuF tu (fun g9 => gnV gp gt ra rb stp g9 1 - gnV gp gt ra rb stp g9 0) gn) (ctz (v + 1))))), (8, .int (iI ((ctz (v + 1) : Nat) : Int))), (0, .ref (ad x)), (6, .int (iI ((2 ^ gn : Nat) : Int)))]) hx hb dX6_fairest_84 hl (k := 6) rfl (by first | exact iI_add _ _ | exact (iI_add _ _).trans (congrArg iI (by omega))) (by decide) rfl (fun ls hl => ?_)
            refine lv_goto (tgt := 30) hx hb dX6_fairest_87 (by decide) ?_
            exact ih7 (v + 1) _ _ _ _ (by omega) (by omega) hfr f_x f_L f_g f_gp f_gt f_tu hP hS (by first | exact lv_sub hl [5, 3, 2, 1, 6, 0] rfl | exact lv_cast (lv_sub (l' := [(0, .ref (ad x)), (1, .long (jI ((alW (sumI (fun g9 => gnV gp gt ra rb stp g9 0) gn) (tuF tu (fun g9 => gnV gp gt ra rb stp g9 1 - gnV gp gt ra rb stp g9 0) gn)) v + (tuF tu (fun g9 => gnV gp gt ra rb stp g9 1 - gnV gp gt ra rb stp g9 0) gn) (ctz (v + 1))))), (3, .long (jI (max ((alW (sumI (fun g9 => gnV gp gt ra rb stp g9 0) gn) (tuF tu (fun g9 => gnV gp gt ra rb stp g9 1 - gnV gp gt ra rb stp g9 0) gn)) v + (tuF tu (fun g9 => gnV gp gt ra rb stp g9 1 - gnV gp gt ra rb stp g9 0) gn) (ctz (v + 1))) (-((alW (sumI (fun g9 => gnV gp gt ra rb stp g9 0) gn) (tuF tu (fun g9 => gnV gp gt ra rb stp g9 1 - gnV gp gt ra rb stp g9 0) gn)) v + (tuF tu (fun g9 => gnV gp gt ra rb stp g9 1 - gnV gp gt ra rb stp g9 0) gn) (ctz (v + 1))))))), (5, .int (iI ((v + 1 : Nat) : Int))), (6, .int (iI ((2 ^ gn : Nat) : Int))), (7, .int (iI (((v + 1 : Nat) : Int) + 1)))]) hl [5, 3, 2, 1, 6, 0] rfl) (lc_s (lc_j (show (((alW (sumI (fun g9 => gnV gp gt ra rb stp g9 0) gn) (tuF tu (fun g9 => gnV gp gt ra rb stp g9 1 - gnV gp gt ra rb stp g9 0) gn)) v + (tuF tu (fun g9 => gnV gp gt ra rb stp g9 1 - gnV gp gt ra rb stp g9 0) gn) (ctz (v + 1))) : Int) = (alW (sumI (fun g9 => gnV gp gt ra rb stp g9 0) gn) (tuF tu (fun g9 => gnV gp gt ra rb stp g9 1 - gnV gp gt ra rb stp g9 0) gn)) (v + 1) by rfl) (lc_j (show ((max ((alW (sumI (fun g9 => gnV gp gt ra rb stp g9 0) gn) (tuF tu (fun g9 => gnV gp gt ra rb stp g9 1 - gnV gp gt ra rb stp g9 0) gn)) v + (tuF tu (fun g9 => gnV gp gt ra rb stp g9 1 - gnV gp gt ra rb stp g9 0) gn) (ctz (v + 1))) (-((alW (sumI (fun g9 => gnV gp gt ra rb stp g9 0) gn) (tuF tu (fun g9 => gnV gp gt ra rb stp g9 1 - gnV gp gt ra rb stp g9 0) gn)) v + (tuF tu (fun g9 => gnV gp gt ra rb stp g9 1 - gnV gp gt ra rb stp g9 0) gn) (ctz (v + 1))))) : Int) = faN (alW (sumI (fun g9 => gnV gp gt ra rb stp g9 0) gn) (tuF tu (fun g9 => gnV gp gt ra rb stp g9 1 - gnV gp gt ra rb stp g9 0) gn)) (v + 1) by exact (faN_y hlt).symm) (lc_i (show (((v + 1 : Nat) : Int) : Int) = ((faB (alW (sumI (fun g9 => gnV gp gt ra rb stp g9 0) gn) (tuF tu (fun g9 => gnV gp gt ra rb stp g9 1 - gnV gp gt ra rb stp g9 0) gn)) (v + 1) : Nat) : Int) by rw [faB_y hlt]) (lc_s (lc_i (show ((((v + 1 : Nat) : Int) + 1) : Int) = (((v + 1) + 1 : Nat) : Int) by omega) rfl)))))))
  exact lp5 (2 ^ gn - 0 + 1) 0 _ _ _ _ (Nat.lt_succ_self _) (by omega) hfr f_x f_L f_g f_gp f_gt f_tu hP hS (by first | exact lv_sub hl [5, 4, 3, 2, 1, 0] rfl | exact lv_cast (lv_sub (l' := [(0, .ref (ad x)), (1, .long (jI (alW (sumI (fun g9 => gnV gp gt ra rb stp g9 0) gn) (tuF tu (fun g9 => gnV gp gt ra rb stp g9 1 - gnV gp gt ra rb stp g9 0) gn) 0))), (3, .long (jI (max (alW (sumI (fun g9 => gnV gp gt ra rb stp g9 0) gn) (tuF tu (fun g9 => gnV gp gt ra rb stp g9 1 - gnV gp gt ra rb stp g9 0) gn) 0) (-(alW (sumI (fun g9 => gnV gp gt ra rb stp g9 0) gn) (tuF tu (fun g9 => gnV gp gt ra rb stp g9 1 - gnV gp gt ra rb stp g9 0) gn) 0))))), (5, .int (iI 0)), (6, .int (iI ((2 ^ gn : Nat) : Int))), (7, .int (iI 1))]) hl [5, 4, 3, 2, 1, 0] rfl) (lc_s (lc_j (show ((alW (sumI (fun g9 => gnV gp gt ra rb stp g9 0) gn) (tuF tu (fun g9 => gnV gp gt ra rb stp g9 1 - gnV gp gt ra rb stp g9 0) gn) 0) : Int) = (alW (sumI (fun g9 => gnV gp gt ra rb stp g9 0) gn) (tuF tu (fun g9 => gnV gp gt ra rb stp g9 1 - gnV gp gt ra rb stp g9 0) gn)) 0 by rfl) (lc_j (show ((max (alW (sumI (fun g9 => gnV gp gt ra rb stp g9 0) gn) (tuF tu (fun g9 => gnV gp gt ra rb stp g9 1 - gnV gp gt ra rb stp g9 0) gn) 0) (-(alW (sumI (fun g9 => gnV gp gt ra rb stp g9 0) gn) (tuF tu (fun g9 => gnV gp gt ra rb stp g9 1 - gnV gp gt ra rb stp g9 0) gn) 0))) : Int) = faN (alW (sumI (fun g9 => gnV gp gt ra rb stp g9 0) gn) (tuF tu (fun g9 => gnV gp gt ra rb stp g9 1 - gnV gp gt ra rb stp g9 0) gn)) 0 by rfl) (lc_i (show (0 : Int) = ((faB (alW (sumI (fun g9 => gnV gp gt ra rb stp g9 0) gn) (tuF tu (fun g9 => gnV gp gt ra rb stp g9 1 - gnV gp gt ra rb stp g9 0) gn)) 0 : Nat) : Int) by omega) (lc_s (lc_i (show (1 : Int) = ((0 + 1 : Nat) : Int) by omega) rfl)))))))
