
/-! ===== Coinage: what its methods do, as functions ===== -/
def anyV (val : Nat → Nat) (z : Int) : Nat → Bool
  | 0 => false
  | n + 1 => anyV val z n || decide ((val n : Int) = z)
theorem anyV_up {val : Nat → Nat} {z : Int} {a : Nat} (h : anyV val z a = true) : ∀ b, anyV val z (a + b) = true
  | 0 => h
  | b + 1 => by
    show (anyV val z (a + b) || _) = true
    rw [anyV_up h b]
    rfl
theorem anyV_le {val : Nat → Nat} {z : Int} {a b : Nat} (h : anyV val z a = true) (hab : a ≤ b) : anyV val z b = true := by
  have := anyV_up h (b - a)
  rwa [show a + (b - a) = b by omega] at this
theorem anyV_t {val : Nat → Nat} {z : Int} {n : Nat} (h : (val n : Int) = z) : anyV val z (n + 1) = true := by
  show (anyV val z n || decide _) = true
  simp [h]
theorem anyV_f {val : Nat → Nat} {z : Int} {n : Nat} (h0 : anyV val z n = false) (h : ¬ (val n : Int) = z) : anyV val z (n + 1) = false := by
  show (anyV val z n || decide _) = false
  simp [h, h0]
/-- where a new coin of value v goes among the first n of fal -/
def insP (val fal : Nat → Nat) (v : Nat) : Nat → Nat
  | 0 => 0
  | q + 1 => if val (fal q) < v then insP val fal v q else q + 1
theorem insP_lt {val fal : Nat → Nat} {v q : Nat} (h : val (fal q) < v) : insP val fal v (q + 1) = insP val fal v q := if_pos h
theorem insP_ge {val fal : Nat → Nat} {v q : Nat} (h : ¬ val (fal q) < v) : insP val fal v (q + 1) = q + 1 := if_neg h
def insQ (fal : Nat → Nat) (n q : Nat) : Nat → Nat := fun k => if q < k ∧ k ≤ n then fal (k - 1) else fal k
def insF (fal : Nat → Nat) (n q : Nat) : Nat → Nat := fun k => if k = q then n else if q < k ∧ k ≤ n then fal (k - 1) else fal k
theorem insQ_0 (fal : Nat → Nat) (n : Nat) : insQ fal n n = fal := by
  funext k
  unfold insQ
  rw [if_neg (by omega)]
theorem insQ_s (fal : Nat → Nat) {n q : Nat} (h : q + 1 ≤ n) : (va_up (fun k => (insQ fal n (q + 1) k : Int)) (q + 1) ((insQ fal n (q + 1) q : Nat) : Int)) = fun k => (insQ fal n q k : Int) := by
  funext k
  unfold va_up insQ
  by_cases h1 : k = q + 1
  · subst h1
    rw [if_pos rfl, if_neg (by omega), if_pos (by omega)]
    rfl
  · rw [if_neg h1]
    dsimp only
    by_cases h2 : q + 1 < k ∧ k ≤ n
    · rw [if_pos h2, if_pos (by omega)]
    · rw [if_neg h2, if_neg (by omega)]
theorem insQ_F (fal : Nat → Nat) (n q : Nat) : (va_up (fun k => (insQ fal n q k : Int)) q (n : Int)) = fun k => (insF fal n q k : Int) := by
  funext k
  unfold va_up insQ insF
  by_cases h1 : k = q
  · rw [if_pos h1, if_pos h1]
  · rw [if_neg h1, if_neg h1]
theorem insQ_lo (fal : Nat → Nat) {n q k : Nat} (h : k ≤ q) : insQ fal n q k = fal k := by
  unfold insQ
  rw [if_neg (by omega)]
/-- the fewest coins, one coin of value v more, the t sums from v on done -/
def imp (lst : Nat → Int) (v : Nat) : Nat → (Nat → Int)
  | 0 => lst
  | t + 1 => if imp lst v t t ≠ -1 ∧ (imp lst v t (v + t) = -1 ∨ imp lst v t t + 1 < imp lst v t (v + t)) then va_up (imp lst v t) (v + t) (imp lst v t t + 1) else imp lst v t
theorem imp_y {lst : Nat → Int} {v t : Nat} (h : imp lst v t t ≠ -1 ∧ (imp lst v t (v + t) = -1 ∨ imp lst v t t + 1 < imp lst v t (v + t))) : imp lst v (t + 1) = va_up (imp lst v t) (v + t) (imp lst v t t + 1) := if_pos h
theorem imp_n {lst : Nat → Int} {v t : Nat} (h : ¬ (imp lst v t t ≠ -1 ∧ (imp lst v t (v + t) = -1 ∨ imp lst v t t + 1 < imp lst v t (v + t)))) : imp lst v (t + 1) = imp lst v t := if_neg h
theorem imp_rng {lst : Nat → Int} {v : Nat} (hv : 1 ≤ v) (h : ∀ k, k < 2001 → -1 ≤ lst k ∧ lst k ≤ k) : ∀ t, v + t ≤ 2001 → ∀ k, k < 2001 → -1 ≤ imp lst v t k ∧ imp lst v t k ≤ k
  | 0, _ => h
  | t + 1, ht => by
    intro k hk
    have ih := imp_rng hv h t (by omega)
    by_cases hc : imp lst v t t ≠ -1 ∧ (imp lst v t (v + t) = -1 ∨ imp lst v t t + 1 < imp lst v t (v + t))
    · rw [imp_y hc]
      have h1 := ih t (by omega)
      have h2 := ih k hk
      unfold va_up
      split <;> omega
    · rw [imp_n hc]
      exact ih k hk
/-- how many coins of value v, f at most, FEWEST for 'left' begins with -/
def wfT (lst : Nat → Int) (v : Nat) : Nat → Nat → Nat
  | 0, _ => 0
  | f + 1, left => if lst (left - v) = lst left - 1 then wfT lst v f (left - v) + 1 else 0
theorem wfT_y {lst : Nat → Int} {v f left : Nat} (h : lst (left - v) = lst left - 1) : wfT lst v (f + 1) left = wfT lst v f (left - v) + 1 := if_pos h
theorem wfT_n {lst : Nat → Int} {v f left : Nat} (h : ¬ lst (left - v) = lst left - 1) : wfT lst v (f + 1) left = 0 := if_neg h
theorem wfT_le (lst : Nat → Int) (v : Nat) : ∀ f left, wfT lst v f left ≤ f
  | 0, _ => Nat.le_refl 0
  | f + 1, left => by
    by_cases h : lst (left - v) = lst left - 1
    · rw [wfT_y h]
      have := wfT_le lst v f (left - v)
      omega
    · rw [wfT_n h]
      omega
def wfL (val fal : Nat → Nat) (lst : Nat → Int) (sum : Nat) : Nat → Nat
  | 0 => sum
  | i + 1 => wfL val fal lst sum i - wfT lst (val (fal i)) (wfL val fal lst sum i / val (fal i)) (wfL val fal lst sum i) * val (fal i)
def wfR (val fal : Nat → Nat) (lst : Nat → Int) (sum : Nat) (row : Nat → Int) : Nat → (Nat → Int)
  | 0 => row
  | i + 1 => va_up (wfR val fal lst sum row i) (fal i) (wfT lst (val (fal i)) (wfL val fal lst sum i / val (fal i)) (wfL val fal lst sum i) : Nat)
theorem wfL_le (val fal : Nat → Nat) (lst : Nat → Int) (sum : Nat) : ∀ i, wfL val fal lst sum i ≤ sum
  | 0 => Nat.le_refl _
  | i + 1 => Nat.le_trans (Nat.sub_le _ _) (wfL_le val fal lst sum i)
/-- GREEDY: what is left, how many, behind i coins -/
def grL (val fal : Nat → Nat) (sum : Nat) : Nat → Nat
  | 0 => sum
  | i + 1 => grL val fal sum i % val (fal i)
def grA (val fal : Nat → Nat) (sum : Nat) : Nat → Nat
  | 0 => 0
  | i + 1 => grA val fal sum i + grL val fal sum i / val (fal i)
def grV (val fal : Nat → Nat) (cnt sum : Nat) : Int := if grL val fal sum cnt = 0 then (grA val fal sum cnt : Int) else -1
theorem grz_0 {val fal : Nat → Nat} {sum i : Nat} (h : grL val fal sum i = 0) : ∀ d, grL val fal sum (i + d) = 0 ∧ grA val fal sum (i + d) = grA val fal sum i
  | 0 => ⟨h, rfl⟩
  | d + 1 => by
    have ih := grz_0 h d
    show grL val fal sum (i + d) % _ = 0 ∧ grA val fal sum (i + d) + grL val fal sum (i + d) / _ = _
    rw [ih.1, ih.2]
    exact ⟨Nat.zero_mod _, by rw [Nat.zero_div]; rfl⟩
theorem nmodI (a b : Nat) : ((a : Nat) : Int) - ((a : Nat) : Int) / ((b : Nat) : Int) * ((b : Nat) : Int) = ((a % b : Nat) : Int) := by
  rw [Int.natCast_emod, Int.emod_def, Int.mul_comm]
theorem gr_ret0 {val fal : Nat → Nat} {cnt sum q : Nat} (hq : q ≤ cnt) (h : grL val fal sum q = 0) : grV val fal cnt sum = ((grA val fal sum q : Nat) : Int) := by
  have h1 := grz_0 h (cnt - q)
  rw [show q + (cnt - q) = cnt by omega] at h1
  unfold grV
  rw [if_pos h1.1, h1.2]
theorem gr_retN {val fal : Nat → Nat} {cnt sum q : Nat} (hq : q = cnt) (h : ¬ grL val fal sum q = 0) : grV val fal cnt sum = -1 := by
  subst hq
  unfold grV
  rw [if_neg h]
theorem gr_le (val fal : Nat → Nat) (sum : Nat) : ∀ i, grL val fal sum i ≤ sum
  | 0 => Nat.le_refl _
  | i + 1 => Nat.le_trans (Nat.mod_le _ _) (gr_le val fal sum i)
theorem grA_le (val fal : Nat → Nat) (sum : Nat) : ∀ i, grA val fal sum i ≤ i * sum
  | 0 => Nat.zero_le _
  | i + 1 => by
    have h1 := grA_le val fal sum i
    have h2 : grL val fal sum i / val (fal i) ≤ sum := Nat.le_trans (Nat.div_le_self _ _) (gr_le val fal sum i)
    show grA val fal sum i + _ ≤ (i + 1) * sum
    rw [Nat.succ_mul]
    omega
theorem grV_rng (val fal : Nat → Nat) (cnt sum : Nat) (hc : cnt ≤ 8) (hs : sum ≤ 2000) : -1 ≤ grV val fal cnt sum ∧ grV val fal cnt sum ≤ 16000 := by
  have h1 := grA_le val fal sum cnt
  have h2 : cnt * sum ≤ 8 * 2000 := Nat.mul_le_mul hc hs
  unfold grV
  split <;> omega
/-- the first s from s0 on, f of them, with P -/
def fo (P : Nat → Bool) : Nat → Nat → Int
  | 0, _ => -1
  | f + 1, s0 => if P s0 then (s0 : Int) else fo P f (s0 + 1)
theorem fo_t {P : Nat → Bool} {f s0 : Nat} (h : P s0 = true) : fo P (f + 1) s0 = s0 := by
  show (if P s0 then (s0 : Int) else _) = _
  rw [h]
  rfl
theorem fo_f {P : Nat → Bool} {f s0 : Nat} (h : P s0 = false) : fo P (f + 1) s0 = fo P f (s0 + 1) := by
  show (if P s0 then (s0 : Int) else _) = _
  rw [h]
  rfl
theorem fo_c {P Q : Nat → Bool} : ∀ (f s0 : Nat), (∀ k, s0 ≤ k → k < s0 + f → P k = Q k) → fo P f s0 = fo Q f s0
  | 0, _, _ => rfl
  | f + 1, s0, h => by
    have h1 := h s0 (Nat.le_refl _) (by omega)
    have ih := fo_c f (s0 + 1) (fun k a b => h k (by omega) (by omega))
    show (if P s0 then (s0 : Int) else fo P f (s0 + 1)) = if Q s0 then (s0 : Int) else fo Q f (s0 + 1)
    rw [h1, ih]
set_option maxHeartbeats 4000000 in
set_option maxRecDepth 100000 in
theorem c_X1_isValue {l : Launch} {G : nG} {N : Nat} {ad : Nat → Nat} {w : Nat → va_E} {sz : Nat} (i cnt : Nat) (val : Nat → Nat) (z : Int) (hN : i + 3 < N) (hc : cnt ≤ 8) (hz : -2147483648 ≤ z ∧ z < 2147483648) (hval : ∀ k, val k ≤ 1000) (f_o : w i = .inr (1, [.int (iI ((cnt : Nat) : Int)), .ref (ad (i + 1)), .ref (ad (i + 2)), .ref (ad (i + 3))])) (f_v : w (i + 1) = aI G 8 (fun q => (val q : Int))) : Met l yX1_isValue wsX1_isValue ({ frames := 0, cells := 0, slots := 0, locals := 0 }) (va_Pc [.ref (ad i), .int (iI z)] (nB G N ad w sz)) (nRd (.int (iI (bI (anyV val z cnt = true))))) 0 0 (fun _ => False) := by
  refine n_ent (cc := cX1_isValue) (maxL := 3) (ret := (some .boolean)) (by decide) rfl (Nat.le_of_ble_eq_true rfl) ?_
  intro p e s m below meth cd hx hb hr hml hlocks hts hown hnm hsz hP hK hI Q hQ ls hl
  have hown : s.vm.findClass RX1 = some m.cls := hown
  have hl : lv_has ls 3 [(0, .ref (ad i)), (1, .int (iI z))] := hl
  refine n_iconst hx hb dX1_isValue_0 ?_
  refine lv_istore_n (lv' := [(2, .int (iI 0)), (0, .ref (ad i)), (1, .int (iI z))]) hx hb dX1_isValue_1 rfl hl (by decide) rfl (fun ls hl => ?_)
  have lp1 : ∀ (fu : Nat), ∀ (q : Nat), ∀ (ls : Array Slot), cnt - q < fu → q ≤ cnt → anyV val z q = false → lv_has ls 3 [(0, .ref (ad i)), (1, .int (iI z)), (2, .int (iI ((q : Nat) : Int)))] → W p l e ({ frames := 0, cells := 0, slots := 0, locals := 0 } : Room) s m ([.ref (ad i), .int (iI z)] : List Value).toArray below meth cd s.heap [] 0 0 Q (F0 m 2 ls []) := by
    intro fu
    induction fu with
    | zero =>
      intro q ls hfu hq hv hl
      exact absurd hfu (Nat.not_lt_zero _)
    | succ fu ih2 =>
      intro q ls hfu hq hv hl
      refine lv_iload_n hx hb dX1_isValue_2 rfl (lv_at hl 2 rfl) ?_
      refine lv_aload_n hx hb dX1_isValue_3 rfl (lv_at hl 0 rfl) ?_
      refine n_get hx hb hts u_X1 hown hK hP (by omega) f_o rfl 0 (by decide) (nT_m wf_X1_9) rfl dX1_isValue_4 ?_
      refine n_icmp_ge (tgt := 28) hx hb dX1_isValue_7 (by decide) (by omega) (by omega) (fun hc7 => ?_) (fun hc7 => ?_)
      · skip
        refine n_iconst hx hb dX1_isValue_28 ?_
        exact n_zretR hQ hx hb hr hlocks (bI_f (fun h => by rw [show cnt = q by omega, hv] at h; cases h)).symm dX1_isValue_29
      · skip
        refine lv_aload_n hx hb dX1_isValue_10 rfl (lv_at hl 0 rfl) ?_
        refine n_get hx hb hts u_X1 hown hK hP (by omega) f_o rfl 1 (by decide) (nT_m wf_X1_15) rfl dX1_isValue_11 ?_
        refine lv_iload_n hx hb dX1_isValue_14 rfl (lv_at hl 2 rfl) ?_
        refine n_iald hx hb hK hP q (by omega) f_v (by omega) (by omega) (by decide) dX1_isValue_15 ?_
        have ho3 := hval q
        refine lv_iload_n hx hb dX1_isValue_16 rfl (lv_at hl 1 rfl) ?_
        refine n_icmp_ne (tgt := 22) hx hb dX1_isValue_17 (by decide) (by omega) (by omega) (fun hc17 => ?_) (fun hc17 => ?_)
        · skip
          refine lv_iinc (v := iI (((q : Nat) : Int) + 1)) (lv' := [(2, .int (iI (((q : Nat) : Int) + 1))), (0, .ref (ad i)), (1, .int (iI z))]) hx hb dX1_isValue_22 hl (k := 2) rfl (by first | exact iI_add _ _ | exact (iI_add _ _).trans (congrArg iI (by omega))) (by decide) rfl (fun ls hl => ?_)
          refine lv_goto (tgt := 2) hx hb dX1_isValue_25 (by decide) ?_
          exact ih2 (q + 1) _ (by omega) (by omega) (anyV_f hv hc17) (by first | exact lv_sub hl [1, 2, 0] rfl | exact lv_cast (lv_sub (l' := [(0, .ref (ad i)), (1, .int (iI z)), (2, .int (iI (((q : Nat) : Int) + 1)))]) hl [1, 2, 0] rfl) (lc_s (lc_s (lc_i (show ((((q : Nat) : Int) + 1) : Int) = (((q + 1) : Nat) : Int) by omega) rfl))))
        · skip
          refine n_iconst hx hb dX1_isValue_20 ?_
          exact n_zretR hQ hx hb hr hlocks (bI_t (anyV_le (anyV_t hc17) (by omega))).symm dX1_isValue_21
  exact lp1 (cnt - 0 + 1) 0 _ (Nat.lt_succ_self _) (by omega) rfl (by first | exact lv_sub hl [1, 2, 0] rfl | exact lv_cast (lv_sub (l' := [(0, .ref (ad i)), (1, .int (iI z)), (2, .int (iI 0))]) hl [1, 2, 0] rfl) (lc_s (lc_s (lc_i (show (0 : Int) = ((0 : Nat) : Int) by omega) rfl))))
set_option maxHeartbeats 4000000 in
set_option maxRecDepth 100000 in
theorem c_X1_rank {l : Launch} {G : nG} {N : Nat} {ad : Nat → Nat} {w : Nat → va_E} {sz : Nat} (i n : Nat) (cnt : Nat) (val fal : Nat → Nat) (hN : i + 3 < N) (hn : n < 8) (hval : ∀ k, val k ≤ 1000) (hfal : ∀ k, k < n → fal k < 8) (f_o : w i = .inr (1, [.int (iI ((cnt : Nat) : Int)), .ref (ad (i + 1)), .ref (ad (i + 2)), .ref (ad (i + 3))])) (f_v : w (i + 1) = aI G 8 (fun q => (val q : Int))) (f_f : w (i + 2) = aI G 8 (fun q => (fal q : Int))) : Met l yX1_rank wsX1_rank ({ frames := 0, cells := 0, slots := 0, locals := 0 }) (va_Pc [.ref (ad i), .int (iI ((n : Nat) : Int))] (nB G N ad w sz)) (nPv G N ad sz (fun u => (∀ j, j ≠ (i + 2) → u j = w j) ∧ (u (i + 2) = aI G 8 (fun k => (insF fal n (insP val fal (val n) n) k : Int))))) 0 0 (nA N ad sz) := by
  refine n_ent (cc := cX1_rank) (maxL := 3) (ret := (none : Option Jvm.ClassFile.FieldType)) (by decide) rfl (Nat.le_of_ble_eq_true rfl) ?_
  intro p e s m below meth cd hx hb hr hml hlocks hts hown hnm hsz hP hK hI Q hQ ls hl
  have hown : s.vm.findClass RX1 = some m.cls := hown
  subst hsz
  have hJ := hI.J s.heap.size
  have hS : va_S (nA N ad s.heap.size) s.heap s.heap [] := va_S.rf
  have hfr : ∀ j, j ≠ (i + 2) → w j = w j := fun _ _ => rfl
  have hl : lv_has ls 3 [(0, .ref (ad i)), (1, .int (iI ((n : Nat) : Int)))] := hl
  refine lv_iload_n hx hb dX1_rank_0 rfl (lv_at hl 1 rfl) ?_
  refine lv_istore_n (lv' := [(2, .int (iI ((n : Nat) : Int))), (0, .ref (ad i)), (1, .int (iI ((n : Nat) : Int)))]) hx hb dX1_rank_1 rfl hl (by decide) rfl (fun ls hl => ?_)
  have lp1 : ∀ (fu : Nat), ∀ (q : Nat), ∀ (w2 : Nat → va_E) (H : Heap) (locs : List Loc), ∀ (ls : Array Slot), q < fu → q ≤ n → insP val fal (val n) q = insP val fal (val n) n → (∀ j, j ≠ (i + 2) → w2 j = w j) → w2 i = .inr (1, [.int (iI ((cnt : Nat) : Int)), .ref (ad (i + 1)), .ref (ad (i + 2)), .ref (ad (i + 3))]) → w2 (i + 1) = aI G 8 (fun q => (val q : Int)) → w2 (i + 2) = aI G 8 (fun k => (insQ fal n q k : Int)) → va_P G.1 vwCl (nL N ad w2) H → va_S (nA N ad s.heap.size) s.heap H locs → lv_has ls 3 [(0, .ref (ad i)), (1, .int (iI ((n : Nat) : Int))), (2, .int (iI ((q : Nat) : Int)))] → W p l e ({ frames := 0, cells := 0, slots := 0, locals := 0 } : Room) s m ([.ref (ad i), .int (iI ((n : Nat) : Int))] : List Value).toArray below meth cd H locs 0 0 Q (F0 m 2 ls []) := by
    intro fu
    induction fu with
    | zero =>
      intro q w2 H locs ls hfu hq hp hfr f_o f_v f_f hP hS hl
      exact absurd hfu (Nat.not_lt_zero _)
    | succ fu ih3 =>
      intro q w2 H locs ls hfu hq hp hfr f_o f_v f_f hP hS hl
      refine lv_iload_n hx hb dX1_rank_2 rfl (lv_at hl 2 rfl) ?_
      refine n_if_le (tgt := 48) hx hb dX1_rank_3 (by decide) (by omega) (fun hc3 => ?_) (fun hc3 => ?_)
      · skip
        refine lv_aload_n hx hb dX1_rank_48 rfl (lv_at hl 0 rfl) ?_
        refine n_get hx hb hts u_X1 hown hK hP (by omega) f_o rfl 2 (by decide) (nT_m wf_X1_19) rfl dX1_rank_49 ?_
        refine lv_iload_n hx hb dX1_rank_52 rfl (lv_at hl 2 rfl) ?_
        refine lv_iload_n hx hb dX1_rank_53 rfl (lv_at hl 1 rfl) ?_
        refine n_iast hx hb hK hJ hP hS q (by omega) f_f (by omega) (by omega) (by decide) dX1_rank_54 (fun w4 H locs f_f hne5 hP hS => ?_)
        have f_o := (hne5 i (by omega)).trans f_o
        have f_v := (hne5 (i + 1) (by omega)).trans f_v
        have hfr : ∀ j, j ≠ (i + 2) → w4 j = w j := fun j a0 => (hne5 j (by omega)).trans (hfr j a0)
        refine n_vretP hQ hx hb hr hlocks hP hS dX1_rank_55 ?_
        refine ⟨hfr, f_f.trans (congrArg (aI G 8) ?_)⟩
        have e9 : insP val fal (val n) n = q := by
          rw [← hp]
          cases q with
          | zero => rfl
          | succ q1 =>
            exact insP_ge (by omega)
        rw [e9]
        exact insQ_F fal n q
      · skip
        refine lv_aload_n hx hb dX1_rank_6 rfl (lv_at hl 0 rfl) ?_
        refine n_get hx hb hts u_X1 hown hK hP (by omega) f_o rfl 1 (by decide) (nT_m wf_X1_15) rfl dX1_rank_7 ?_
        refine lv_aload_n hx hb dX1_rank_10 rfl (lv_at hl 0 rfl) ?_
        refine n_get hx hb hts u_X1 hown hK hP (by omega) f_o rfl 2 (by decide) (nT_m wf_X1_19) rfl dX1_rank_11 ?_
        refine lv_iload_n hx hb dX1_rank_14 rfl (lv_at hl 2 rfl) ?_
        refine n_iconst hx hb dX1_rank_15 ?_
        refine n_isub hx hb dX1_rank_16 ?_
        refine n_iald hx hb hK hP (q - 1) (by omega) f_f (by omega) (by omega) (by decide) dX1_rank_17 ?_
        have hf8 : insQ fal n q (q - 1) < 8 := by rw [insQ_lo fal (by omega)]; exact hfal _ (by omega)
        refine n_iald hx hb hK hP (insQ fal n q (q - 1)) (by omega) f_v (by omega) (by omega) (by decide) dX1_rank_18 ?_
        have ho6 := hval (insQ fal n q (q - 1))
        refine lv_aload_n hx hb dX1_rank_19 rfl (lv_at hl 0 rfl) ?_
        refine n_get hx hb hts u_X1 hown hK hP (by omega) f_o rfl 1 (by decide) (nT_m wf_X1_15) rfl dX1_rank_20 ?_
        refine lv_iload_n hx hb dX1_rank_23 rfl (lv_at hl 1 rfl) ?_
        refine n_iald hx hb hK hP n (by omega) f_v (by omega) (by omega) (by decide) dX1_rank_24 ?_
        have ho7 := hval n
        refine n_icmp_ge (tgt := 48) hx hb dX1_rank_25 (by decide) (by omega) (by omega) (fun hc25 => ?_) (fun hc25 => ?_)
        · skip
          refine lv_aload_n hx hb dX1_rank_48 rfl (lv_at hl 0 rfl) ?_
          refine n_get hx hb hts u_X1 hown hK hP (by omega) f_o rfl 2 (by decide) (nT_m wf_X1_19) rfl dX1_rank_49 ?_
          refine lv_iload_n hx hb dX1_rank_52 rfl (lv_at hl 2 rfl) ?_
          refine lv_iload_n hx hb dX1_rank_53 rfl (lv_at hl 1 rfl) ?_
          refine n_iast hx hb hK hJ hP hS q (by omega) f_f (by omega) (by omega) (by decide) dX1_rank_54 (fun w8 H locs f_f hne9 hP hS => ?_)
          have f_o := (hne9 i (by omega)).trans f_o
          have f_v := (hne9 (i + 1) (by omega)).trans f_v
          have hfr : ∀ j, j ≠ (i + 2) → w8 j = w j := fun j a0 => (hne9 j (by omega)).trans (hfr j a0)
          refine n_vretP hQ hx hb hr hlocks hP hS dX1_rank_55 ?_
          refine ⟨hfr, f_f.trans (congrArg (aI G 8) ?_)⟩
          have e9 : insP val fal (val n) n = q := by
            rw [← hp]
            cases q with
            | zero => rfl
            | succ q1 =>
              exact insP_ge (by rw [show q1 + 1 - 1 = q1 by omega, insQ_lo fal (by omega)] at hc25; omega)
          rw [e9]
          exact insQ_F fal n q
        · skip
          refine lv_aload_n hx hb dX1_rank_28 rfl (lv_at hl 0 rfl) ?_
          refine n_get hx hb hts u_X1 hown hK hP (by omega) f_o rfl 2 (by decide) (nT_m wf_X1_19) rfl dX1_rank_29 ?_
          refine lv_iload_n hx hb dX1_rank_32 rfl (lv_at hl 2 rfl) ?_
          refine lv_aload_n hx hb dX1_rank_33 rfl (lv_at hl 0 rfl) ?_
          refine n_get hx hb hts u_X1 hown hK hP (by omega) f_o rfl 2 (by decide) (nT_m wf_X1_19) rfl dX1_rank_34 ?_
          refine lv_iload_n hx hb dX1_rank_37 rfl (lv_at hl 2 rfl) ?_
          refine n_iconst hx hb dX1_rank_38 ?_
          refine n_isub hx hb dX1_rank_39 ?_
          refine n_iald hx hb hK hP (q - 1) (by omega) f_f (by omega) (by omega) (by decide) dX1_rank_40 ?_
          refine n_iast hx hb hK hJ hP hS q (by omega) f_f (by omega) (by omega) (by decide) dX1_rank_41 (fun w10 H locs f_f hne11 hP hS => ?_)
          have f_o := (hne11 i (by omega)).trans f_o
          have f_v := (hne11 (i + 1) (by omega)).trans f_v
          have hfr : ∀ j, j ≠ (i + 2) → w10 j = w j := fun j a0 => (hne11 j (by omega)).trans (hfr j a0)
          refine lv_iinc (v := iI (((q : Nat) : Int) - 1)) (lv' := [(2, .int (iI (((q : Nat) : Int) - 1))), (0, .ref (ad i)), (1, .int (iI ((n : Nat) : Int)))]) hx hb dX1_rank_42 hl (k := 2) rfl (by first | exact iI_add _ _ | exact (iI_add _ _).trans (congrArg iI (by omega))) (by decide) rfl (fun ls hl => ?_)
          refine lv_goto (tgt := 2) hx hb dX1_rank_45 (by decide) ?_
          obtain ⟨q1, rfl⟩ : ∃ q1, q = q1 + 1 := ⟨q - 1, by omega⟩
          rw [insQ_lo fal (by omega)] at hc25
          have hlt : val (fal q1) < val n := by rw [show q1 + 1 - 1 = q1 by omega] at hc25; omega
          exact ih3 q1 _ _ _ _ (by omega) (by omega) ((insP_lt hlt).symm.trans hp) hfr f_o f_v (f_f.trans (congrArg (aI G 8) (by rw [show q1 + 1 - 1 = q1 by omega]; exact insQ_s fal (by omega)))) hP hS (by first | exact lv_sub hl [1, 2, 0] rfl | exact lv_cast (lv_sub (l' := [(0, .ref (ad i)), (1, .int (iI ((n : Nat) : Int))), (2, .int (iI ((((q1 + 1) : Nat) : Int) - 1)))]) hl [1, 2, 0] rfl) (lc_s (lc_s (lc_i (show (((((q1 + 1) : Nat) : Int) - 1) : Int) = ((q1 : Nat) : Int) by omega) rfl))))
  exact lp1 (n + 1) n _ _ _ _ (Nat.lt_succ_self _) (by omega) rfl hfr f_o f_v (f_f.trans (by rw [insQ_0])) hP hS (lv_sub hl [1, 2, 0] rfl)
set_option maxHeartbeats 4000000 in
set_option maxRecDepth 100000 in
theorem c_X1_improve {l : Launch} {G : nG} {N : Nat} {ad : Nat → Nat} {w : Nat → va_E} {sz : Nat} (i v : Nat) (cnt : Nat) (lst : Nat → Int) (hN : i + 3 < N) (hv : 1 ≤ v ∧ v ≤ 1000) (hlst : ∀ k, k < 2001 → -1 ≤ lst k ∧ lst k ≤ k) (f_o : w i = .inr (1, [.int (iI ((cnt : Nat) : Int)), .ref (ad (i + 1)), .ref (ad (i + 2)), .ref (ad (i + 3))])) (f_l : w (i + 3) = aI G 2001 lst) : Met l yX1_improve wsX1_improve ({ frames := 0, cells := 0, slots := 0, locals := 0 }) (va_Pc [.ref (ad i), .int (iI ((v : Nat) : Int))] (nB G N ad w sz)) (nPv G N ad sz (fun u => (∀ j, j ≠ (i + 3) → u j = w j) ∧ (u (i + 3) = aI G 2001 (imp lst v (2001 - v))))) 0 0 (nA N ad sz) := by
  refine n_ent (cc := cX1_improve) (maxL := 4) (ret := (none : Option Jvm.ClassFile.FieldType)) (by decide) rfl (Nat.le_of_ble_eq_true rfl) ?_
  intro p e s m below meth cd hx hb hr hml hlocks hts hown hnm hsz hP hK hI Q hQ ls hl
  have hown : s.vm.findClass RX1 = some m.cls := hown
  subst hsz
  have hJ := hI.J s.heap.size
  have hS : va_S (nA N ad s.heap.size) s.heap s.heap [] := va_S.rf
  have hfr : ∀ j, j ≠ (i + 3) → w j = w j := fun _ _ => rfl
  have hl : lv_has ls 4 [(0, .ref (ad i)), (1, .int (iI ((v : Nat) : Int)))] := hl
  refine lv_iload_n hx hb dX1_improve_0 rfl (lv_at hl 1 rfl) ?_
  refine lv_istore_n (lv' := [(2, .int (iI ((v : Nat) : Int))), (0, .ref (ad i)), (1, .int (iI ((v : Nat) : Int)))]) hx hb dX1_improve_1 rfl hl (by decide) rfl (fun ls hl => ?_)
  have lp1 : ∀ (fu : Nat), ∀ (t : Nat), ∀ (w2 : Nat → va_E) (H : Heap) (locs : List Loc), ∀ (ls : Array Slot), 2001 - (v + t) < fu → v + t ≤ 2001 → (∀ j, j ≠ (i + 3) → w2 j = w j) → w2 i = .inr (1, [.int (iI ((cnt : Nat) : Int)), .ref (ad (i + 1)), .ref (ad (i + 2)), .ref (ad (i + 3))]) → w2 (i + 3) = aI G 2001 (imp lst v t) → va_P G.1 vwCl (nL N ad w2) H → va_S (nA N ad s.heap.size) s.heap H locs → lv_has ls 4 [(0, .ref (ad i)), (1, .int (iI ((v : Nat) : Int))), (2, .int (iI ((v + t : Nat) : Int)))] → W p l e ({ frames := 0, cells := 0, slots := 0, locals := 0 } : Room) s m ([.ref (ad i), .int (iI ((v : Nat) : Int))] : List Value).toArray below meth cd H locs 0 0 Q (F0 m 2 ls []) := by
    intro fu
    induction fu with
    | zero =>
      intro t w2 H locs ls hfu ht hfr f_o f_l hP hS hl
      exact absurd hfu (Nat.not_lt_zero _)
    | succ fu ih3 =>
      intro t w2 H locs ls hfu ht hfr f_o f_l hP hS hl
      have hrg := imp_rng hv.1 hlst t ht
      have e8 : v + t - v = t := by omega
      refine lv_iload_n hx hb dX1_improve_2 rfl (lv_at hl 2 rfl) ?_
      refine n_sipush hx hb dX1_improve_3 (by decide) ?_
      refine n_icmp_gt (tgt := 60) hx hb dX1_improve_6 (by decide) (by omega) (by omega) (fun hc6 => ?_) (fun hc6 => ?_)
      · skip
        refine n_vretP hQ hx hb hr hlocks hP hS dX1_improve_60 ?_
        refine ⟨hfr, f_l.trans (congrArg (fun x => aI G 2001 (imp lst v x)) (by omega))⟩
      · skip
        refine lv_aload_n hx hb dX1_improve_9 rfl (lv_at hl 0 rfl) ?_
        refine n_get hx hb hts u_X1 hown hK hP (by omega) f_o rfl 3 (by decide) (nT_m wf_X1_22) rfl dX1_improve_10 ?_
        refine lv_iload_n hx hb dX1_improve_13 rfl (lv_at hl 2 rfl) ?_
        refine lv_iload_n hx hb dX1_improve_14 rfl (lv_at hl 1 rfl) ?_
        refine n_isub hx hb dX1_improve_15 ?_
        refine n_iald hx hb hK hP (v + t - v) (by omega) f_l (by omega) (by omega) (by decide) dX1_improve_16 ?_
        have ho4 := hrg (v + t - v) (by omega)
        refine lv_istore_n (lv' := [(3, .int (iI ((imp lst v t) (v + t - v)))), (0, .ref (ad i)), (1, .int (iI ((v : Nat) : Int))), (2, .int (iI ((v + t : Nat) : Int)))]) hx hb dX1_improve_17 rfl hl (by decide) rfl (fun ls hl => ?_)
        refine lv_iload_n hx hb dX1_improve_18 rfl (lv_at hl 0 rfl) ?_
        refine n_iconst hx hb dX1_improve_19 ?_
        refine n_icmp_eq (tgt := 54) hx hb dX1_improve_20 (by decide) (by omega) (by omega) (fun hc20 => ?_) (fun hc20 => ?_)
        · skip
          refine lv_iinc (v := iI (((v + t : Nat) : Int) + 1)) (lv' := [(2, .int (iI (((v + t : Nat) : Int) + 1))), (3, .int (iI ((imp lst v t) (v + t - v)))), (0, .ref (ad i)), (1, .int (iI ((v : Nat) : Int)))]) hx hb dX1_improve_54 hl (k := 3) rfl (by first | exact iI_add _ _ | exact (iI_add _ _).trans (congrArg iI (by omega))) (by decide) rfl (fun ls hl => ?_)
          refine lv_goto (tgt := 2) hx hb dX1_improve_57 (by decide) ?_
          exact ih3 (t + 1) _ _ _ _ (by omega) (by omega) hfr f_o (f_l.trans (congrArg (aI G 2001) (imp_n (by rw [e8] at *; omega)).symm)) hP hS (by first | exact lv_sub hl [2, 3, 0] rfl | exact lv_cast (lv_sub (l' := [(0, .ref (ad i)), (1, .int (iI ((v : Nat) : Int))), (2, .int (iI (((v + t : Nat) : Int) + 1)))]) hl [2, 3, 0] rfl) (lc_s (lc_s (lc_i (show ((((v + t : Nat) : Int) + 1) : Int) = ((v + (t + 1) : Nat) : Int) by omega) rfl))))
        · skip
          refine lv_aload_n hx hb dX1_improve_23 rfl (lv_at hl 1 rfl) ?_
          refine n_get hx hb hts u_X1 hown hK hP (by omega) f_o rfl 3 (by decide) (nT_m wf_X1_22) rfl dX1_improve_24 ?_
          refine lv_iload_n hx hb dX1_improve_27 rfl (lv_at hl 3 rfl) ?_
          refine n_iald hx hb hK hP (v + t) (by omega) f_l (by omega) (by omega) (by decide) dX1_improve_28 ?_
          have ho5 := hrg (v + t) (by omega)
          refine n_iconst hx hb dX1_improve_29 ?_
          refine n_icmp_eq (tgt := 45) hx hb dX1_improve_30 (by decide) (by omega) (by omega) (fun hc30 => ?_) (fun hc30 => ?_)
          · skip
            refine lv_aload_n hx hb dX1_improve_45 rfl (lv_at hl 1 rfl) ?_
            refine n_get hx hb hts u_X1 hown hK hP (by omega) f_o rfl 3 (by decide) (nT_m wf_X1_22) rfl dX1_improve_46 ?_
            refine lv_iload_n hx hb dX1_improve_49 rfl (lv_at hl 3 rfl) ?_
            refine lv_iload_n hx hb dX1_improve_50 rfl (lv_at hl 0 rfl) ?_
            refine n_iconst hx hb dX1_improve_51 ?_
            refine n_iadd hx hb dX1_improve_52 ?_
            refine n_iast hx hb hK hJ hP hS (v + t) (by omega) f_l (by omega) (by omega) (by decide) dX1_improve_53 (fun w6 H locs f_l hne7 hP hS => ?_)
            have f_o := (hne7 i (by omega)).trans f_o
            have hfr : ∀ j, j ≠ (i + 3) → w6 j = w j := fun j a0 => (hne7 j (by omega)).trans (hfr j a0)
            refine lv_iinc (v := iI (((v + t : Nat) : Int) + 1)) (lv' := [(2, .int (iI (((v + t : Nat) : Int) + 1))), (3, .int (iI ((imp lst v t) (v + t - v)))), (0, .ref (ad i)), (1, .int (iI ((v : Nat) : Int)))]) hx hb dX1_improve_54 hl (k := 3) rfl (by first | exact iI_add _ _ | exact (iI_add _ _).trans (congrArg iI (by omega))) (by decide) rfl (fun ls hl => ?_)
            refine lv_goto (tgt := 2) hx hb dX1_improve_57 (by decide) ?_
            exact ih3 (t + 1) _ _ _ _ (by omega) (by omega) hfr f_o (f_l.trans (congrArg (aI G 2001) (by rw [e8]; exact (imp_y (by rw [e8] at *; omega)).symm))) hP hS (by first | exact lv_sub hl [2, 3, 0] rfl | exact lv_cast (lv_sub (l' := [(0, .ref (ad i)), (1, .int (iI ((v : Nat) : Int))), (2, .int (iI (((v + t : Nat) : Int) + 1)))]) hl [2, 3, 0] rfl) (lc_s (lc_s (lc_i (show ((((v + t : Nat) : Int) + 1) : Int) = ((v + (t + 1) : Nat) : Int) by omega) rfl))))
          · skip
            refine lv_iload_n hx hb dX1_improve_33 rfl (lv_at hl 0 rfl) ?_
            refine n_iconst hx hb dX1_improve_34 ?_
            refine n_iadd hx hb dX1_improve_35 ?_
            refine lv_aload_n hx hb dX1_improve_36 rfl (lv_at hl 1 rfl) ?_
            refine n_get hx hb hts u_X1 hown hK hP (by omega) f_o rfl 3 (by decide) (nT_m wf_X1_22) rfl dX1_improve_37 ?_
            refine lv_iload_n hx hb dX1_improve_40 rfl (lv_at hl 3 rfl) ?_
            refine n_iald hx hb hK hP (v + t) (by omega) f_l (by omega) (by omega) (by decide) dX1_improve_41 ?_
            have ho8 := hrg (v + t) (by omega)
            refine n_icmp_ge (tgt := 54) hx hb dX1_improve_42 (by decide) (by omega) (by omega) (fun hc42 => ?_) (fun hc42 => ?_)
            · skip
              refine lv_iinc (v := iI (((v + t : Nat) : Int) + 1)) (lv' := [(2, .int (iI (((v + t : Nat) : Int) + 1))), (3, .int (iI ((imp lst v t) (v + t - v)))), (0, .ref (ad i)), (1, .int (iI ((v : Nat) : Int)))]) hx hb dX1_improve_54 hl (k := 3) rfl (by first | exact iI_add _ _ | exact (iI_add _ _).trans (congrArg iI (by omega))) (by decide) rfl (fun ls hl => ?_)
              refine lv_goto (tgt := 2) hx hb dX1_improve_57 (by decide) ?_
              exact ih3 (t + 1) _ _ _ _ (by omega) (by omega) hfr f_o (f_l.trans (congrArg (aI G 2001) (imp_n (by rw [e8] at *; omega)).symm)) hP hS (by first | exact lv_sub hl [2, 3, 0] rfl | exact lv_cast (lv_sub (l' := [(0, .ref (ad i)), (1, .int (iI ((v : Nat) : Int))), (2, .int (iI (((v + t : Nat) : Int) + 1)))]) hl [2, 3, 0] rfl) (lc_s (lc_s (lc_i (show ((((v + t : Nat) : Int) + 1) : Int) = ((v + (t + 1) : Nat) : Int) by omega) rfl))))
            · skip
              refine lv_aload_n hx hb dX1_improve_45 rfl (lv_at hl 1 rfl) ?_
              refine n_get hx hb hts u_X1 hown hK hP (by omega) f_o rfl 3 (by decide) (nT_m wf_X1_22) rfl dX1_improve_46 ?_
              refine lv_iload_n hx hb dX1_improve_49 rfl (lv_at hl 3 rfl) ?_
              refine lv_iload_n hx hb dX1_improve_50 rfl (lv_at hl 0 rfl) ?_
              refine n_iconst hx hb dX1_improve_51 ?_
              refine n_iadd hx hb dX1_improve_52 ?_
              refine n_iast hx hb hK hJ hP hS (v + t) (by omega) f_l (by omega) (by omega) (by decide) dX1_improve_53 (fun w9 H locs f_l hne10 hP hS => ?_)
              have f_o := (hne10 i (by omega)).trans f_o
              have hfr : ∀ j, j ≠ (i + 3) → w9 j = w j := fun j a0 => (hne10 j (by omega)).trans (hfr j a0)
              refine lv_iinc (v := iI (((v + t : Nat) : Int) + 1)) (lv' := [(2, .int (iI (((v + t : Nat) : Int) + 1))), (3, .int (iI ((imp lst v t) (v + t - v)))), (0, .ref (ad i)), (1, .int (iI ((v : Nat) : Int)))]) hx hb dX1_improve_54 hl (k := 3) rfl (by first | exact iI_add _ _ | exact (iI_add _ _).trans (congrArg iI (by omega))) (by decide) rfl (fun ls hl => ?_)
              refine lv_goto (tgt := 2) hx hb dX1_improve_57 (by decide) ?_
              exact ih3 (t + 1) _ _ _ _ (by omega) (by omega) hfr f_o (f_l.trans (congrArg (aI G 2001) (by rw [e8]; exact (imp_y (by rw [e8] at *; omega)).symm))) hP hS (by first | exact lv_sub hl [2, 3, 0] rfl | exact lv_cast (lv_sub (l' := [(0, .ref (ad i)), (1, .int (iI ((v : Nat) : Int))), (2, .int (iI (((v + t : Nat) : Int) + 1)))]) hl [2, 3, 0] rfl) (lc_s (lc_s (lc_i (show ((((v + t : Nat) : Int) + 1) : Int) = ((v + (t + 1) : Nat) : Int) by omega) rfl))))
  exact lp1 (2001 - (v + 0) + 1) 0 _ _ _ _ (Nat.lt_succ_self _) (by omega) hfr f_o f_l hP hS (by first | exact lv_sub hl [1, 2, 0] rfl | exact lv_cast (lv_sub (l' := [(0, .ref (ad i)), (1, .int (iI ((v : Nat) : Int))), (2, .int (iI ((v : Nat) : Int)))]) hl [1, 2, 0] rfl) (lc_s (lc_s (lc_i (show (((v : Nat) : Int) : Int) = ((v + 0 : Nat) : Int) by omega) rfl))))
set_option maxHeartbeats 4000000 in
set_option maxRecDepth 100000 in
theorem c_X1_hasFewest {l : Launch} {G : nG} {N : Nat} {ad : Nat → Nat} {w : Nat → va_E} {sz : Nat} (i cnt : Nat) (z : Int) (lst : Nat → Int) (hN : i + 3 < N) (hz : -2147483648 ≤ z ∧ z < 2147483648) (hlst : ∀ k, k < 2001 → -1 ≤ lst k ∧ lst k ≤ k) (f_o : w i = .inr (1, [.int (iI ((cnt : Nat) : Int)), .ref (ad (i + 1)), .ref (ad (i + 2)), .ref (ad (i + 3))])) (f_l : w (i + 3) = aI G 2001 lst) : Met l yX1_hasFewest wsX1_hasFewest ({ frames := 2, cells := 0, slots := 0, locals := 42 }) (va_Pc [.ref (ad i), .int (iI z)] (nB G N ad w sz)) (nRd (.int (iI (bI ((0 ≤ z ∧ z ≤ 2000) ∧ ¬ lst z.toNat = -1))))) 0 0 (fun _ => False) := by
  refine n_ent (cc := cX1_hasFewest) (maxL := 2) (ret := (some .boolean)) (by decide) rfl (Nat.le_of_ble_eq_true rfl) ?_
  intro p e s m below meth cd hx hb hr hml hlocks hts hown hnm hsz hP hK hI Q hQ ls hl
  have hown : s.vm.findClass RX1 = some m.cls := hown
  have hl : lv_has ls 2 [(0, .ref (ad i)), (1, .int (iI z))] := hl
  refine lv_iload_n hx hb dX1_hasFewest_0 rfl (lv_at hl 1 rfl) ?_
  refine n_rdF (va_runSN (As := [.int (iI z)]) (rest := []) ⟨hx, hb, hml, hown, hts⟩ (c_X6_isSum z (by omega)) ⟨va_cnB 1 hts (nT_N wc_X6_isSum) rfl rfl rfl (hK.2 _ (List.mem_of_getElem? (i := 7) rfl)) (hts _ (nT_m wn_X6)) (by decide +kernel) ⟨Nat.le_of_ble_eq_true rfl, Nat.le_of_ble_eq_true rfl⟩, hts _ (nT_m wt_X6_isSum), trivial⟩ preEq rfl rfl hl.1 rfl (lv_room (Nat.le_of_ble_eq_true rfl)) dX1_hasFewest_1 ⟨Nat.zero_le _, Nat.zero_le _⟩) ?_
  refine n_if_eqB (tgt := 21) hx hb dX1_hasFewest_4 (by decide) (fun hc4 => ?_) (fun hc4 => ?_)
  · skip
    refine n_iconst hx hb dX1_hasFewest_21 ?_
    exact n_zretR hQ hx hb hr hlocks (by unfold bI; split <;> omega) dX1_hasFewest_22
  · skip
    refine lv_aload_n hx hb dX1_hasFewest_7 rfl (lv_at hl 0 rfl) ?_
    refine n_get hx hb hts u_X1 hown hK hP (by omega) f_o rfl 3 (by decide) (nT_m wf_X1_22) rfl dX1_hasFewest_8 ?_
    refine lv_iload_n hx hb dX1_hasFewest_11 rfl (lv_at hl 1 rfl) ?_
    refine n_iald hx hb hK hP z.toNat (by omega) f_l (by omega) (by omega) (by decide) dX1_hasFewest_12 ?_
    have ho1 := hlst z.toNat (by omega)
    refine n_iconst hx hb dX1_hasFewest_13 ?_
    refine n_icmp_eq (tgt := 21) hx hb dX1_hasFewest_14 (by decide) (by omega) (by omega) (fun hc14 => ?_) (fun hc14 => ?_)
    · skip
      refine n_iconst hx hb dX1_hasFewest_21 ?_
      exact n_zretR hQ hx hb hr hlocks (by unfold bI; split <;> omega) dX1_hasFewest_22
    · skip
      refine n_iconst hx hb dX1_hasFewest_17 ?_
      refine lv_goto (tgt := 22) hx hb dX1_hasFewest_18 (by decide) ?_
      exact n_zretR hQ hx hb hr hlocks (by unfold bI; split <;> omega) dX1_hasFewest_22
set_option maxHeartbeats 4000000 in
set_option maxRecDepth 100000 in
theorem c_X1_countGreedily {l : Launch} {G : nG} {N : Nat} {ad : Nat → Nat} {w : Nat → va_E} {sz : Nat} (i cnt : Nat) (val fal : Nat → Nat) (sum : Nat) (hN : i + 3 < N) (hc : cnt ≤ 8) (hval : ∀ k, val k ≤ 1000) (hval1 : ∀ k, k < cnt → 1 ≤ val k) (hfal : ∀ k, k < cnt → fal k < cnt) (hs : sum ≤ 2000) (f_o : w i = .inr (1, [.int (iI ((cnt : Nat) : Int)), .ref (ad (i + 1)), .ref (ad (i + 2)), .ref (ad (i + 3))])) (f_v : w (i + 1) = aI G 8 (fun q => (val q : Int))) (f_f : w (i + 2) = aI G 8 (fun q => (fal q : Int))) : Met l yX1_countGreedily wsX1_countGreedily ({ frames := 1, cells := 0, slots := 0, locals := 21 }) (va_Pc [.ref (ad i), .int (iI ((sum : Nat) : Int))] (nB G N ad w sz)) (nRd (.int (iI (grV val fal cnt sum)))) 0 0 (fun _ => False) := by
  refine n_ent (cc := cX1_countGreedily) (maxL := 7) (ret := (some .int)) (by decide) rfl (Nat.le_of_ble_eq_true rfl) ?_
  intro p e s m below meth cd hx hb hr hml hlocks hts hown hnm hsz hP hK hI Q hQ ls hl
  have hown : s.vm.findClass RX1 = some m.cls := hown
  have hl : lv_has ls 7 [(0, .ref (ad i)), (1, .int (iI ((sum : Nat) : Int)))] := hl
  refine lv_iload_n hx hb dX1_countGreedily_0 rfl (lv_at hl 1 rfl) ?_
  refine lv_istore_n (lv' := [(2, .int (iI ((sum : Nat) : Int))), (0, .ref (ad i)), (1, .int (iI ((sum : Nat) : Int)))]) hx hb dX1_countGreedily_1 rfl hl (by decide) rfl (fun ls hl => ?_)
  refine n_iconst hx hb dX1_countGreedily_2 ?_
  refine lv_istore_n (lv' := [(3, .int (iI 0)), (2, .int (iI ((sum : Nat) : Int))), (0, .ref (ad i)), (1, .int (iI ((sum : Nat) : Int)))]) hx hb dX1_countGreedily_3 rfl hl (by decide) rfl (fun ls hl => ?_)
  refine n_iconst hx hb dX1_countGreedily_4 ?_
  refine lv_istore (lv' := [(4, .int (iI 0)), (3, .int (iI 0)), (2, .int (iI ((sum : Nat) : Int))), (0, .ref (ad i)), (1, .int (iI ((sum : Nat) : Int)))]) hx hb dX1_countGreedily_5 hl (by decide) rfl (fun ls hl => ?_)
  have lp1 : ∀ (fu : Nat), ∀ (q : Nat), ∀ (ls : Array Slot), cnt - q < fu → q ≤ cnt → lv_has ls 7 [(0, .ref (ad i)), (1, .int (iI ((sum : Nat) : Int))), (2, .int (iI ((grL val fal sum q : Nat) : Int))), (3, .int (iI ((grA val fal sum q : Nat) : Int))), (4, .int (iI ((q : Nat) : Int)))] → W p l e ({ frames := 1, cells := 0, slots := 0, locals := 21 } : Room) s m ([.ref (ad i), .int (iI ((sum : Nat) : Int))] : List Value).toArray below meth cd s.heap [] 0 0 Q (F0 m 7 ls []) := by
    intro fu
    induction fu with
    | zero =>
      intro q ls hfu hq hl
      exact absurd hfu (Nat.not_lt_zero _)
    | succ fu ih2 =>
      intro q ls hfu hq hl
      have hle := gr_le val fal sum q
      have hAl := grA_le val fal sum q
      have hAm : q * sum ≤ 8 * sum := Nat.mul_le_mul_right sum (by omega)
      refine lv_iload hx hb dX1_countGreedily_7 (lv_at hl 4 rfl) ?_
      refine lv_aload_n hx hb dX1_countGreedily_9 rfl (lv_at hl 0 rfl) ?_
      refine n_get hx hb hts u_X1 hown hK hP (by omega) f_o rfl 0 (by decide) (nT_m wf_X1_9) rfl dX1_countGreedily_10 ?_
      refine n_icmp_ge (tgt := 61) hx hb dX1_countGreedily_13 (by decide) (by omega) (by omega) (fun hc13 => ?_) (fun hc13 => ?_)
      · skip
        refine lv_iload_n hx hb dX1_countGreedily_61 rfl (lv_at hl 2 rfl) ?_
        refine n_if_ne (tgt := 69) hx hb dX1_countGreedily_62 (by decide) (by omega) (fun hc62 => ?_) (fun hc62 => ?_)
        · skip
          refine n_iconst hx hb dX1_countGreedily_69 ?_
          exact n_iretR hQ hx hb hr hlocks (gr_retN (q := q) (by omega) (by omega)).symm dX1_countGreedily_70
        · skip
          refine lv_iload_n hx hb dX1_countGreedily_65 rfl (lv_at hl 3 rfl) ?_
          refine lv_goto (tgt := 70) hx hb dX1_countGreedily_66 (by decide) ?_
          exact n_iretR hQ hx hb hr hlocks (gr_ret0 hq (by omega)).symm dX1_countGreedily_70
      · skip
        refine lv_iload_n hx hb dX1_countGreedily_16 rfl (lv_at hl 2 rfl) ?_
        refine n_if_le (tgt := 61) hx hb dX1_countGreedily_17 (by decide) (by omega) (fun hc17 => ?_) (fun hc17 => ?_)
        · skip
          refine lv_iload_n hx hb dX1_countGreedily_61 rfl (lv_at hl 2 rfl) ?_
          refine n_if_ne (tgt := 69) hx hb dX1_countGreedily_62 (by decide) (by omega) (fun hc62 => ?_) (fun hc62 => ?_)
          · skip
            refine n_iconst hx hb dX1_countGreedily_69 ?_
            exact n_iretR hQ hx hb hr hlocks (by omega) dX1_countGreedily_70
          · skip
            refine lv_iload_n hx hb dX1_countGreedily_65 rfl (lv_at hl 3 rfl) ?_
            refine lv_goto (tgt := 70) hx hb dX1_countGreedily_66 (by decide) ?_
            exact n_iretR hQ hx hb hr hlocks (gr_ret0 hq (by omega)).symm dX1_countGreedily_70
        · skip
          refine lv_aload_n hx hb dX1_countGreedily_20 rfl (lv_at hl 0 rfl) ?_
          refine n_get hx hb hts u_X1 hown hK hP (by omega) f_o rfl 1 (by decide) (nT_m wf_X1_15) rfl dX1_countGreedily_21 ?_
          refine lv_aload_n hx hb dX1_countGreedily_24 rfl (lv_at hl 0 rfl) ?_
          refine n_get hx hb hts u_X1 hown hK hP (by omega) f_o rfl 2 (by decide) (nT_m wf_X1_19) rfl dX1_countGreedily_25 ?_
          refine lv_iload hx hb dX1_countGreedily_28 (lv_at hl 4 rfl) ?_
          refine n_iald hx hb hK hP q (by omega) f_f (by omega) (by omega) (by decide) dX1_countGreedily_30 ?_
          have hf8 := hfal q (by omega)
          have hv1 := hval1 (fal q) hf8
          refine n_iald hx hb hK hP (fal q) (by omega) f_v (by omega) (by omega) (by decide) dX1_countGreedily_31 ?_
          have ho3 := hval (fal q)
          refine lv_istore (lv' := [(5, .int (iI (val (fal q) : Int))), (0, .ref (ad i)), (1, .int (iI ((sum : Nat) : Int))), (2, .int (iI ((grL val fal sum q : Nat) : Int))), (3, .int (iI ((grA val fal sum q : Nat) : Int))), (4, .int (iI ((q : Nat) : Int)))]) hx hb dX1_countGreedily_32 hl (by decide) rfl (fun ls hl => ?_)
          refine lv_iload_n hx hb dX1_countGreedily_34 rfl (lv_at hl 3 rfl) ?_
          refine lv_iload hx hb dX1_countGreedily_35 (lv_at hl 0 rfl) ?_
          refine n_rdF (v := .int (iI (((grL val fal sum q) / (val (fal q)) : Nat) : Int))) (va_runSN (As := [.int (iI ((grL val fal sum q : Nat) : Int)), .int (iI (val (fal q) : Int))]) (rest := []) ⟨hx, hb, hml, hown, hts⟩ (c_X6_wholeTimes ((grL val fal sum q : Nat) : Int) (val (fal q) : Int) (by omega) (by omega)) ⟨va_cnB 2 hts (nT_N wc_X6_wholeTimes) rfl rfl rfl (hK.2 _ (List.mem_of_getElem? (i := 8) rfl)) (hts _ (nT_m wn_X6)) (by decide +kernel) ⟨Nat.le_of_ble_eq_true rfl, Nat.le_of_ble_eq_true rfl⟩, hts _ (nT_m wt_X6_wholeTimes), trivial⟩ preEq rfl rfl hl.1 rfl (lv_room (Nat.le_of_ble_eq_true rfl)) dX1_countGreedily_37 ⟨Nat.zero_le _, Nat.zero_le _⟩) ?_
          refine lv_istore (lv' := [(6, .int (iI (((grL val fal sum q) / (val (fal q)) : Nat) : Int))), (5, .int (iI (val (fal q) : Int))), (0, .ref (ad i)), (1, .int (iI ((sum : Nat) : Int))), (2, .int (iI ((grL val fal sum q : Nat) : Int))), (3, .int (iI ((grA val fal sum q : Nat) : Int))), (4, .int (iI ((q : Nat) : Int)))]) hx hb dX1_countGreedily_40 hl (by decide) rfl (fun ls hl => ?_)
          refine lv_iload_n hx hb dX1_countGreedily_42 rfl (lv_at hl 4 rfl) ?_
          refine lv_iload hx hb dX1_countGreedily_43 (lv_at hl 0 rfl) ?_
          refine lv_iload hx hb dX1_countGreedily_45 (lv_at hl 1 rfl) ?_
          refine n_imul hx hb dX1_countGreedily_47 ?_
          refine n_isub hx hb dX1_countGreedily_48 ?_
          refine lv_istore_n (lv' := [(2, .int (iI (((grL val fal sum q : Nat) : Int) - ((((grL val fal sum q) / (val (fal q)) : Nat) : Int) * (val (fal q) : Int))))), (6, .int (iI (((grL val fal sum q) / (val (fal q)) : Nat) : Int))), (5, .int (iI (val (fal q) : Int))), (0, .ref (ad i)), (1, .int (iI ((sum : Nat) : Int))), (3, .int (iI ((grA val fal sum q : Nat) : Int))), (4, .int (iI ((q : Nat) : Int)))]) hx hb dX1_countGreedily_49 rfl hl (by decide) rfl (fun ls hl => ?_)
          refine lv_iload_n hx hb dX1_countGreedily_50 rfl (lv_at hl 5 rfl) ?_
          refine lv_iload hx hb dX1_countGreedily_51 (lv_at hl 1 rfl) ?_
          refine n_iadd hx hb dX1_countGreedily_53 ?_
          refine lv_istore_n (lv' := [(3, .int (iI (((grA val fal sum q : Nat) : Int) + (((grL val fal sum q) / (val (fal q)) : Nat) : Int)))), (2, .int (iI (((grL val fal sum q : Nat) : Int) - ((((grL val fal sum q) / (val (fal q)) : Nat) : Int) * (val (fal q) : Int))))), (6, .int (iI (((grL val fal sum q) / (val (fal q)) : Nat) : Int))), (5, .int (iI (val (fal q) : Int))), (0, .ref (ad i)), (1, .int (iI ((sum : Nat) : Int))), (4, .int (iI ((q : Nat) : Int)))]) hx hb dX1_countGreedily_54 rfl hl (by decide) rfl (fun ls hl => ?_)
          refine lv_iinc (v := iI (((q : Nat) : Int) + 1)) (lv' := [(4, .int (iI (((q : Nat) : Int) + 1))), (3, .int (iI (((grA val fal sum q : Nat) : Int) + (((grL val fal sum q) / (val (fal q)) : Nat) : Int)))), (2, .int (iI (((grL val fal sum q : Nat) : Int) - ((((grL val fal sum q) / (val (fal q)) : Nat) : Int) * (val (fal q) : Int))))), (6, .int (iI (((grL val fal sum q) / (val (fal q)) : Nat) : Int))), (5, .int (iI (val (fal q) : Int))), (0, .ref (ad i)), (1, .int (iI ((sum : Nat) : Int)))]) hx hb dX1_countGreedily_55 hl (k := 6) rfl (by first | exact iI_add _ _ | exact (iI_add _ _).trans (congrArg iI (by omega))) (by decide) rfl (fun ls hl => ?_)
          refine lv_goto (tgt := 7) hx hb dX1_countGreedily_58 (by decide) ?_
          exact ih2 (q + 1) _ (by omega) (by omega) (by first | exact lv_sub hl [5, 6, 2, 1, 0] rfl | exact lv_cast (lv_sub (l' := [(0, .ref (ad i)), (1, .int (iI ((sum : Nat) : Int))), (2, .int (iI (((grL val fal sum q : Nat) : Int) - ((((grL val fal sum q) / (val (fal q)) : Nat) : Int) * (val (fal q) : Int))))), (3, .int (iI (((grA val fal sum q : Nat) : Int) + (((grL val fal sum q) / (val (fal q)) : Nat) : Int)))), (4, .int (iI (((q : Nat) : Int) + 1)))]) hl [5, 6, 2, 1, 0] rfl) (lc_s (lc_s (lc_i (show ((((grL val fal sum q : Nat) : Int) - ((((grL val fal sum q) / (val (fal q)) : Nat) : Int) * (val (fal q) : Int))) : Int) = ((grL val fal sum (q + 1) : Nat) : Int) by exact nmodI _ _) (lc_i (show ((((grA val fal sum q : Nat) : Int) + (((grL val fal sum q) / (val (fal q)) : Nat) : Int)) : Int) = ((grA val fal sum (q + 1) : Nat) : Int) by rfl) (lc_i (show ((((q : Nat) : Int) + 1) : Int) = (((q + 1) : Nat) : Int) by omega) rfl))))))
  exact lp1 (cnt - 0 + 1) 0 _ (Nat.lt_succ_self _) (by omega) (by first | exact lv_sub hl [3, 4, 2, 1, 0] rfl | exact lv_cast (lv_sub (l' := [(0, .ref (ad i)), (1, .int (iI ((sum : Nat) : Int))), (2, .int (iI ((sum : Nat) : Int))), (3, .int (iI 0)), (4, .int (iI 0))]) hl [3, 4, 2, 1, 0] rfl) (lc_s (lc_s (lc_i (show (((sum : Nat) : Int) : Int) = ((grL val fal sum 0 : Nat) : Int) by omega) (lc_i (show (0 : Int) = ((grA val fal sum 0 : Nat) : Int) by omega) (lc_i (show (0 : Int) = ((0 : Nat) : Int) by omega) rfl))))))
set_option maxHeartbeats 4000000 in
set_option maxRecDepth 100000 in
theorem c_X1_leastOdd {l : Launch} {G : nG} {N : Nat} {ad : Nat → Nat} {w : Nat → va_E} {sz : Nat} (i cnt : Nat) (val fal : Nat → Nat) (lst : Nat → Int) (hN : i + 3 < N) (hc : cnt ≤ 8) (hval : ∀ k, val k ≤ 1000) (hval1 : ∀ k, k < cnt → 1 ≤ val k) (hfal : ∀ k, k < cnt → fal k < cnt) (hlst : ∀ k, k < 2001 → -1 ≤ lst k ∧ lst k ≤ k) (f_o : w i = .inr (1, [.int (iI ((cnt : Nat) : Int)), .ref (ad (i + 1)), .ref (ad (i + 2)), .ref (ad (i + 3))])) (f_v : w (i + 1) = aI G 8 (fun q => (val q : Int))) (f_f : w (i + 2) = aI G 8 (fun q => (fal q : Int))) (f_l : w (i + 3) = aI G 2001 lst) : Met l yX1_leastOdd wsX1_leastOdd ({ frames := 2, cells := 0, slots := 0, locals := 47 }) (va_Pc [.ref (ad i)] (nB G N ad w sz)) (nRd (.int (iI (fo (fun k => decide (¬ lst k = -1 ∧ ¬ grV val fal cnt k = lst k)) 2001 0)))) 0 0 (fun _ => False) := by
  refine n_ent (cc := cX1_leastOdd) (maxL := 2) (ret := (some .int)) (by decide) rfl (Nat.le_of_ble_eq_true rfl) ?_
  intro p e s m below meth cd hx hb hr hml hlocks hts hown hnm hsz hP hK hI Q hQ ls hl
  have hown : s.vm.findClass RX1 = some m.cls := hown
  have hl : lv_has ls 2 [(0, .ref (ad i))] := hl
  refine n_iconst hx hb dX1_leastOdd_0 ?_
  refine lv_istore_n (lv' := [(1, .int (iI 0)), (0, .ref (ad i))]) hx hb dX1_leastOdd_1 rfl hl (by decide) rfl (fun ls hl => ?_)
  have lp1 : ∀ (fu : Nat), ∀ (q : Nat), ∀ (ls : Array Slot), 2001 - q < fu → q ≤ 2001 → fo (fun k => decide (¬ lst k = -1 ∧ ¬ grV val fal cnt k = lst k)) 2001 0 = fo (fun k => decide (¬ lst k = -1 ∧ ¬ grV val fal cnt k = lst k)) (2001 - q) q → lv_has ls 2 [(0, .ref (ad i)), (1, .int (iI ((q : Nat) : Int)))] → W p l e ({ frames := 2, cells := 0, slots := 0, locals := 47 } : Room) s m ([.ref (ad i)] : List Value).toArray below meth cd s.heap [] 0 0 Q (F0 m 2 ls []) := by
    intro fu
    induction fu with
    | zero =>
      intro q ls hfu hq hfo hl
      exact absurd hfu (Nat.not_lt_zero _)
    | succ fu ih2 =>
      intro q ls hfu hq hfo hl
      refine lv_iload_n hx hb dX1_leastOdd_2 rfl (lv_at hl 1 rfl) ?_
      refine n_sipush hx hb dX1_leastOdd_3 (by decide) ?_
      refine n_icmp_gt (tgt := 41) hx hb dX1_leastOdd_6 (by decide) (by omega) (by omega) (fun hc6 => ?_) (fun hc6 => ?_)
      · skip
        refine n_iconst hx hb dX1_leastOdd_41 ?_
        exact n_iretR hQ hx hb hr hlocks (hfo.trans (by rw [show 2001 - q = 0 by omega]; rfl)).symm dX1_leastOdd_42
      · skip
        refine lv_aload_n hx hb dX1_leastOdd_9 rfl (lv_at hl 0 rfl) ?_
        refine n_get hx hb hts u_X1 hown hK hP (by omega) f_o rfl 3 (by decide) (nT_m wf_X1_22) rfl dX1_leastOdd_10 ?_
        refine lv_iload_n hx hb dX1_leastOdd_13 rfl (lv_at hl 1 rfl) ?_
        refine n_iald hx hb hK hP q (by omega) f_l (by omega) (by omega) (by decide) dX1_leastOdd_14 ?_
        have ho3 := hlst q (by omega)
        refine n_iconst hx hb dX1_leastOdd_15 ?_
        refine n_icmp_eq (tgt := 35) hx hb dX1_leastOdd_16 (by decide) (by omega) (by omega) (fun hc16 => ?_) (fun hc16 => ?_)
        · skip
          refine lv_iinc (v := iI (((q : Nat) : Int) + 1)) (lv' := [(1, .int (iI (((q : Nat) : Int) + 1))), (0, .ref (ad i))]) hx hb dX1_leastOdd_35 hl (k := 1) rfl (by first | exact iI_add _ _ | exact (iI_add _ _).trans (congrArg iI (by omega))) (by decide) rfl (fun ls hl => ?_)
          refine lv_goto (tgt := 2) hx hb dX1_leastOdd_38 (by decide) ?_
          exact ih2 (q + 1) _ (by omega) (by omega) (hfo.trans (by rw [show 2001 - q = (2001 - (q + 1)) + 1 by omega]; exact fo_f (by simp; omega))) (by first | exact lv_sub hl [1, 0] rfl | exact lv_cast (lv_sub (l' := [(0, .ref (ad i)), (1, .int (iI (((q : Nat) : Int) + 1)))]) hl [1, 0] rfl) (lc_s (lc_i (show ((((q : Nat) : Int) + 1) : Int) = (((q + 1) : Nat) : Int) by omega) rfl)))
        · skip
          refine lv_aload_n hx hb dX1_leastOdd_19 rfl (lv_at hl 0 rfl) ?_
          refine lv_iload_n hx hb dX1_leastOdd_20 rfl (lv_at hl 1 rfl) ?_
          refine n_rdF (va_runV (As := [.int (iI ((q : Nat) : Int))]) (rest := []) ⟨hx, hb, hml, hown, hts⟩ (c_X1_countGreedily _ _ val fal q (by omega) (by omega) hval hval1 hfal (by omega) f_o f_v f_f) (cwV 1 hts (nT_V wl_X1_59 wi_X1_countGreedily ws_X1_countGreedily wn_X1 wc_X1_countGreedily) rfl rfl rfl (by decide +kernel) ⟨Nat.le_of_ble_eq_true rfl, Nat.le_of_ble_eq_true rfl⟩) (nB.preV hK hI hP (by omega) f_o rfl rfl) rfl rfl hl.1 rfl (lv_room (Nat.le_of_ble_eq_true rfl)) dX1_leastOdd_21 ⟨Nat.zero_le _, Nat.zero_le _⟩) ?_
          have hgv := grV_rng val fal cnt q (by omega) (by omega)
          refine lv_aload_n hx hb dX1_leastOdd_24 rfl (lv_at hl 0 rfl) ?_
          refine n_get hx hb hts u_X1 hown hK hP (by omega) f_o rfl 3 (by decide) (nT_m wf_X1_22) rfl dX1_leastOdd_25 ?_
          refine lv_iload_n hx hb dX1_leastOdd_28 rfl (lv_at hl 1 rfl) ?_
          refine n_iald hx hb hK hP q (by omega) f_l (by omega) (by omega) (by decide) dX1_leastOdd_29 ?_
          have ho4 := hlst q (by omega)
          refine n_icmp_eq (tgt := 35) hx hb dX1_leastOdd_30 (by decide) (by omega) (by omega) (fun hc30 => ?_) (fun hc30 => ?_)
          · skip
            refine lv_iinc (v := iI (((q : Nat) : Int) + 1)) (lv' := [(1, .int (iI (((q : Nat) : Int) + 1))), (0, .ref (ad i))]) hx hb dX1_leastOdd_35 hl (k := 1) rfl (by first | exact iI_add _ _ | exact (iI_add _ _).trans (congrArg iI (by omega))) (by decide) rfl (fun ls hl => ?_)
            refine lv_goto (tgt := 2) hx hb dX1_leastOdd_38 (by decide) ?_
            exact ih2 (q + 1) _ (by omega) (by omega) (hfo.trans (by rw [show 2001 - q = (2001 - (q + 1)) + 1 by omega]; exact fo_f (by simp; omega))) (by first | exact lv_sub hl [1, 0] rfl | exact lv_cast (lv_sub (l' := [(0, .ref (ad i)), (1, .int (iI (((q : Nat) : Int) + 1)))]) hl [1, 0] rfl) (lc_s (lc_i (show ((((q : Nat) : Int) + 1) : Int) = (((q + 1) : Nat) : Int) by omega) rfl)))
          · skip
            refine lv_iload_n hx hb dX1_leastOdd_33 rfl (lv_at hl 1 rfl) ?_
            exact n_iretR hQ hx hb hr hlocks (hfo.trans (by rw [show 2001 - q = (2001 - (q + 1)) + 1 by omega]; exact fo_t (by simp; omega))).symm dX1_leastOdd_34
  exact lp1 (2001 - 0 + 1) 0 _ (Nat.lt_succ_self _) (by omega) rfl (by first | exact lv_sub hl [1, 0] rfl | exact lv_cast (lv_sub (l' := [(0, .ref (ad i)), (1, .int (iI 0))]) hl [1, 0] rfl) (lc_s (lc_i (show (0 : Int) = ((0 : Nat) : Int) by omega) rfl)))
set_option maxHeartbeats 4000000 in
set_option maxRecDepth 100000 in
theorem c_X1_detail {l : Launch} {G : nG} {N : Nat} {ad : Nat → Nat} {w : Nat → va_E} {sz : Nat} (i cnt : Nat) (val : Nat → Nat) (z : Int) (hN : i + 3 < N) (hc : cnt ≤ 8) (hz : -2147483648 ≤ z ∧ z < 2147483648) (hval : ∀ k, val k ≤ 1000) (f_o : w i = .inr (1, [.int (iI ((cnt : Nat) : Int)), .ref (ad (i + 1)), .ref (ad (i + 2)), .ref (ad (i + 3))])) (f_v : w (i + 1) = aI G 8 (fun q => (val q : Int))) : Met l yX1_detail wsX1_detail ({ frames := 2, cells := 0, slots := 0, locals := 43 }) (va_Pc [.ref (ad i), .int (iI z)] (nB G N ad w sz)) (nRd (.int (iI (if z = 0 then (cnt : Int) else if 10 ≤ z ∧ z < 10 + (cnt : Int) then (val (z - 10).toNat : Int) else -1)))) 0 0 (fun _ => False) := by
  refine n_ent (cc := cX1_detail) (maxL := 2) (ret := (some .int)) (by decide) rfl (Nat.le_of_ble_eq_true rfl) ?_
  intro p e s m below meth cd hx hb hr hml hlocks hts hown hnm hsz hP hK hI Q hQ ls hl
  have hown : s.vm.findClass RX1 = some m.cls := hown
  have hl : lv_has ls 2 [(0, .ref (ad i)), (1, .int (iI z))] := hl
  refine lv_iload_n hx hb dX1_detail_0 rfl (lv_at hl 1 rfl) ?_
  refine n_if_ne (tgt := 9) hx hb dX1_detail_1 (by decide) (by omega) (fun hc1 => ?_) (fun hc1 => ?_)
  · skip
    refine lv_aload_n hx hb dX1_detail_9 rfl (lv_at hl 0 rfl) ?_
    refine lv_iload_n hx hb dX1_detail_10 rfl (lv_at hl 1 rfl) ?_
    refine n_bipush hx hb dX1_detail_11 (by decide) ?_
    refine n_isub hx hb dX1_detail_13 ?_
    refine n_rdF (va_runV (As := [.int (iI (z - 10))]) (rest := []) ⟨hx, hb, hml, hown, hts⟩ (c_X1_isCoinW i cnt z (by omega) (by omega) (by omega) f_o) (cwV 1 hts (nT_V wl_X1_63 wi_X1_isCoin ws_X1_isCoin wn_X1 wc_X1_isCoin) rfl rfl rfl (by decide +kernel) ⟨Nat.le_of_ble_eq_true rfl, Nat.le_of_ble_eq_true rfl⟩) (nB.preV hK hI hP (by omega) f_o rfl rfl) rfl rfl hl.1 rfl (lv_room (Nat.le_of_ble_eq_true rfl)) dX1_detail_14 ⟨Nat.zero_le _, Nat.zero_le _⟩) ?_
    refine n_if_eqB (tgt := 32) hx hb dX1_detail_17 (by decide) (fun hc17 => ?_) (fun hc17 => ?_)
    · skip
      refine n_iconst hx hb dX1_detail_32 ?_
      exact n_iretR hQ hx hb hr hlocks (by rw [if_neg (by omega), if_neg (by omega)]) dX1_detail_33
    · skip
      refine lv_aload_n hx hb dX1_detail_20 rfl (lv_at hl 0 rfl) ?_
      refine n_get hx hb hts u_X1 hown hK hP (by omega) f_o rfl 1 (by decide) (nT_m wf_X1_15) rfl dX1_detail_21 ?_
      refine lv_iload_n hx hb dX1_detail_24 rfl (lv_at hl 1 rfl) ?_
      refine n_bipush hx hb dX1_detail_25 (by decide) ?_
      refine n_isub hx hb dX1_detail_27 ?_
      refine n_iald hx hb hK hP ((z - 10).toNat) (by omega) f_v (by omega) (by omega) (by decide) dX1_detail_28 ?_
      have ho1 := hval ((z - 10).toNat)
      refine lv_goto (tgt := 33) hx hb dX1_detail_29 (by decide) ?_
      exact n_iretR hQ hx hb hr hlocks (by rw [if_neg (by omega), if_pos (by omega)]) dX1_detail_33
  · skip
    refine lv_aload_n hx hb dX1_detail_4 rfl (lv_at hl 0 rfl) ?_
    refine n_get hx hb hts u_X1 hown hK hP (by omega) f_o rfl 0 (by decide) (nT_m wf_X1_9) rfl dX1_detail_5 ?_
    exact n_iretR hQ hx hb hr hlocks (by rw [if_pos (by omega)]) dX1_detail_8
