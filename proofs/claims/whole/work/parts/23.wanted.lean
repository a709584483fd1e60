
def spI (ra rb : Nat) (vl : Nat → Nat → Nat) (pr sq co nu : Nat → Nat) (q : Nat) : Int := ((nu q : Nat) : Int) * (vl (sq q) (co q) : Int) * ((if sq q = 0 then ra else rb : Nat) : Int) - ((pr q : Nat) : Int) * ((rb : Nat) : Int)
def chI (ra rb : Nat) (vl : Nat → Nat → Nat) (pr sq co nu : Nat → Nat) (q : Nat) : Int := if spI ra rb vl pr sq co nu q < 0 then -1 else spI ra rb vl pr sq co nu q / ((rb : Nat) : Int)
def okI (lst : Nat → Int) (c : Int) : Bool := decide ((0 ≤ c ∧ c ≤ 2000) ∧ ¬ lst c.toNat = -1)
def mlA (sq co nu : Nat → Nat) (kk q : Nat) : Int := if sq q = 1 ∧ co q = kk then (nu q : Int) else 0
def mlB (tk md : Nat → Int) : Nat → Int
  | 0 => 0
  | q + 1 => mlB tk md q + md q - tk q
def mlM (tk md : Nat → Int) : Nat → Int
  | 0 => 0
  | q + 1 => max (mlM tk md q) (-(mlB tk md (q + 1)))
def allB (P : Nat → Bool) : Nat → Bool
  | 0 => true
  | n + 1 => allB P n && P n
theorem allB_f {P : Nat → Bool} {q : Nat} (h : P q = false) : ∀ n, q < n → allB P n = false
  | 0, hn => absurd hn (Nat.not_lt_zero _)
  | n + 1, hn => by
    show (allB P n && P n) = false
    by_cases e : q = n
    · subst e
      rw [h, Bool.and_false]
    · rw [allB_f h n (by omega), Bool.false_and]
theorem allB_t {P : Nat → Bool} {q : Nat} (h0 : allB P q = true) (h : P q = true) : allB P (q + 1) = true := by
  show (allB P q && P q) = true
  rw [h0, h]
  rfl
theorem wfR_ind {val fal : Nat → Nat} {lst : Nat → Int} {sum : Nat} {row row' : Nat → Int} {k : Nat} : ∀ n, (∃ j, j < n ∧ fal j = k) → wfR val fal lst sum row n k = wfR val fal lst sum row' n k
  | 0, h => by
    obtain ⟨j, hj, -⟩ := h
    exact absurd hj (Nat.not_lt_zero _)
  | n + 1, h => by
    show va_up _ _ _ k = va_up _ _ _ k
    by_cases e : k = fal n
    · rw [e, va_up_self, va_up_self]
    · rw [va_up_ne _ _ e, va_up_ne _ _ e]
      obtain ⟨j, hj, hk⟩ := h
      refine wfR_ind n ⟨j, ?_, hk⟩
      rcases Nat.lt_or_ge j n with c | c
      · exact c
      · exact absurd (show k = fal n by rw [← hk, show j = n by omega]) e
theorem wfR_rng {val fal : Nat → Nat} {lst : Nat → Int} {sum : Nat} (hs : sum ≤ 2000) : ∀ n k, 0 ≤ wfR val fal lst sum (fun _ => 0) n k ∧ wfR val fal lst sum (fun _ => 0) n k ≤ 2000
  | 0, k => by
    show (0 : Int) ≤ 0 ∧ (0 : Int) ≤ 2000
    decide
  | n + 1, k => by
    have ih := wfR_rng (val := val) (fal := fal) (lst := lst) hs n k
    have h1 := wfT_le lst (val (fal n)) (wfL val fal lst sum n / val (fal n)) (wfL val fal lst sum n)
    have h2 : wfL val fal lst sum n / val (fal n) ≤ wfL val fal lst sum n := Nat.div_le_self _ _
    have h3 := wfL_le val fal lst sum n
    show 0 ≤ va_up (wfR val fal lst sum (fun _ => 0) n) (fal n) _ k ∧ va_up (wfR val fal lst sum (fun _ => 0) n) (fal n) _ k ≤ 2000
    by_cases e : k = fal n
    · rw [e, va_up_self]
      omega
    · rw [va_up_ne _ _ e]
      exact ih

theorem chI_rng {ra rb : Nat} {vl : Nat → Nat → Nat} {pr sq co nu : Nat → Nat} {q : Nat} (hrb : 1 ≤ rb) (h : spI ra rb vl pr sq co nu q ≤ 5000000) : -1 ≤ chI ra rb vl pr sq co nu q ∧ chI ra rb vl pr sq co nu q ≤ 5000000 := by
  unfold chI
  split
  · decide
  · have h1 : 0 ≤ spI ra rb vl pr sq co nu q / ((rb : Nat) : Int) := Int.ediv_nonneg (by omega) (by omega)
    have h2 : spI ra rb vl pr sq co nu q / ((rb : Nat) : Int) ≤ spI ra rb vl pr sq co nu q := Int.ediv_le_self _ (by omega)
    omega
set_option maxHeartbeats 4000000 in
set_option maxRecDepth 100000 in
theorem c_X6_mostLacking {l : Launch} {G : nG} {N : Nat} {ad : Nat → Nat} {w : Nat → va_E} {sz : Nat} (x b tn ra rb stp : Nat) (cn : Nat → Nat) (vl : Nat → Nat → Nat) (fal : Nat → Nat) (lst : Nat → Int) (e0 en kk : Nat) (pr sq co nu : Nat → Nat) (row : Nat → Int) (hN : x + 218 < N) (hxb : b = x + 1) (hcn : ∀ k, k < 2 → cn k ≤ 8) (hra : 1 ≤ ra ∧ ra ≤ 100) (hrb : 1 ≤ rb ∧ rb ≤ 100) (hvl : ∀ s1 q, vl s1 q ≤ 1000) (hval1 : ∀ k, k < cn 1 → 1 ≤ vl 1 k) (hfal : ∀ k, k < cn 1 → fal k < cn 1) (hsur : ∀ k, k < cn 1 → ∃ j, j < cn 1 ∧ fal j = k) (hlst : ∀ k, k < 2001 → -1 ≤ lst k ∧ lst k ≤ k) (he0 : b + 13 < e0 ∧ e0 + 4 < b + 50) (hen : en ≤ 20) (hk : kk < cn 1) (hex : ∀ q, q < en → (1 ≤ pr q ∧ pr q ≤ 2000) ∧ (1 ≤ nu q ∧ nu q ≤ 50) ∧ sq q < 2 ∧ co q < cn (sq q)) (f_x : w x = .inr (6, [.ref (ad b), .ref (ad (x + 51)), .ref (ad (x + 52)), .ref (ad (x + 53)), .ref (ad (x + 67)), .ref (ad (x + 68))])) (f_L : w b = .inr (4, [.ref (ad (b + 1)), .ref (ad (b + 5)), .ref (ad (b + 9)), .ref (ad (b + 12)), .ref (ad (b + 13)), .int (iI ((tn : Nat) : Int)), .int (iI ((ra : Nat) : Int)), .int (iI ((rb : Nat) : Int)), .int (iI ((stp : Nat) : Int))])) (f_cn : ∀ k, k < 2 → w (b + 1 + 4 * k) = .inr (1, [.int (iI ((cn k : Nat) : Int)), .ref (ad (b + 1 + 4 * k + 1)), .ref (ad (b + 1 + 4 * k + 2)), .ref (ad (b + 1 + 4 * k + 3))])) (f_vs : ∀ k, k < 2 → w (b + 1 + 4 * k + 1) = aI G 8 (fun q => (vl k q : Int))) (f_e : w e0 = .inr (2, [.int (iI ((en : Nat) : Int)), .ref (ad (e0 + 1)), .ref (ad (e0 + 2)), .ref (ad (e0 + 3)), .ref (ad (e0 + 4))])) (f_ep : w (e0 + 1) = aI G 20 (fun q => (pr q : Int))) (f_es : w (e0 + 2) = aI G 20 (fun q => (sq q : Int))) (f_ec : w (e0 + 3) = aI G 20 (fun q => (co q : Int))) (f_en_ : w (e0 + 4) = aI G 20 (fun q => (nu q : Int))) (f_o2 : w (b + 5) = .inr (1, [.int (iI ((cn 1 : Nat) : Int)), .ref (ad ((b + 5) + 1)), .ref (ad ((b + 5) + 2)), .ref (ad ((b + 5) + 3))])) (f_v2 : w ((b + 5) + 1) = aI G 8 (fun q => (vl 1 q : Int))) (f_f2 : w ((b + 5) + 2) = aI G 8 (fun q => (fal q : Int))) (f_l2 : w ((b + 5) + 3) = aI G 2001 lst) (f_r : w (x + 67) = aI G 8 row) : Met l yX6_mostLacking wsX6_mostLacking ({ frames := 3, cells := 0, slots := 0, locals := 68 }) (va_Pc [.ref (ad x), .ref (ad e0), .int (iI ((kk : Nat) : Int))] (nB G N ad w sz)) (nPi G N ad sz (fun r u => (∀ j, j ≠ (x + 67) → u j = w j) ∧ (r = if allB (fun q9 => okI lst (chI ra rb vl pr sq co nu q9)) en = true then (mlM (fun q9 => wfR (vl 1) fal lst (chI ra rb vl pr sq co nu q9).toNat (fun _ => 0) (cn 1) kk) (fun q9 => mlA sq co nu kk q9) en) else -1) ∧ (∃ R1, u (x + 67) = aI G 8 R1))) 0 0 (nA N ad sz) := by
  refine n_ent (cc := cX6_mostLacking) (maxL := 9) (ret := (some .int)) (by decide) rfl (Nat.le_of_ble_eq_true rfl) ?_
  intro p e s m below meth cd hx hb hr hml hlocks hts hown hnm hsz hP hK hI Q hQ ls hl
  have hown : s.vm.findClass RX6 = some m.cls := hown
  subst hsz
  have hJ := hI.J s.heap.size
  have hS : va_S (nA N ad s.heap.size) s.heap s.heap [] := va_S.rf
  have hfr : ∀ j, j ≠ (x + 67) → w j = w j := fun _ _ => rfl
  have hl : lv_has ls 9 [(0, .ref (ad x)), (1, .ref (ad e0)), (2, .int (iI ((kk : Nat) : Int)))] := hl
  have hc1 := hcn 1 (by omega)
  refine n_iconst hx hb dX6_mostLacking_0 ?_
  refine lv_istore_n (lv' := [(3, .int (iI 0)), (0, .ref (ad x)), (1, .ref (ad e0)), (2, .int (iI ((kk : Nat) : Int)))]) hx hb dX6_mostLacking_1 rfl hl (by decide) rfl (fun ls hl => ?_)
  refine n_iconst hx hb dX6_mostLacking_2 ?_
  refine lv_istore (lv' := [(4, .int (iI 0)), (3, .int (iI 0)), (0, .ref (ad x)), (1, .ref (ad e0)), (2, .int (iI ((kk : Nat) : Int)))]) hx hb dX6_mostLacking_3 hl (by decide) rfl (fun ls hl => ?_)
  refine n_iconst hx hb dX6_mostLacking_5 ?_
  refine lv_istore (lv' := [(5, .int (iI 0)), (4, .int (iI 0)), (3, .int (iI 0)), (0, .ref (ad x)), (1, .ref (ad e0)), (2, .int (iI ((kk : Nat) : Int)))]) hx hb dX6_mostLacking_6 hl (by decide) rfl (fun ls hl => ?_)
  have lp1 : ∀ (fu : Nat), ∀ (q : Nat) (rv : Nat → Int), ∀ (w2 : Nat → va_E) (H : Heap) (locs : List Loc), ∀ (ls : Array Slot), en - q < fu → q ≤ en → allB (fun q9 => okI lst (chI ra rb vl pr sq co nu q9)) q = true → -(2000 * (q : Int)) ≤ (mlB (fun q9 => wfR (vl 1) fal lst (chI ra rb vl pr sq co nu q9).toNat (fun _ => 0) (cn 1) kk) (fun q9 => mlA sq co nu kk q9) q) ∧ (mlB (fun q9 => wfR (vl 1) fal lst (chI ra rb vl pr sq co nu q9).toNat (fun _ => 0) (cn 1) kk) (fun q9 => mlA sq co nu kk q9) q) ≤ 50 * (q : Int) → 0 ≤ (mlM (fun q9 => wfR (vl 1) fal lst (chI ra rb vl pr sq co nu q9).toNat (fun _ => 0) (cn 1) kk) (fun q9 => mlA sq co nu kk q9) q) ∧ (mlM (fun q9 => wfR (vl 1) fal lst (chI ra rb vl pr sq co nu q9).toNat (fun _ => 0) (cn 1) kk) (fun q9 => mlA sq co nu kk q9) q) ≤ 2000 * (q : Int) → (∀ j, j ≠ (x + 67) → w2 j = w j) → w2 x = .inr (6, [.ref (ad b), .ref (ad (x + 51)), .ref (ad (x + 52)), .ref (ad (x + 53)), .ref (ad (x + 67)), .ref (ad (x + 68))]) → w2 b = .inr (4, [.ref (ad (b + 1)), .ref (ad (b + 5)), .ref (ad (b + 9)), .ref (ad (b + 12)), .ref (ad (b + 13)), .int (iI ((tn : Nat) : Int)), .int (iI ((ra : Nat) : Int)), .int (iI ((rb : Nat) : Int)), .int (iI ((stp : Nat) : Int))]) → (∀ k, k < 2 → w2 (b + 1 + 4 * k) = .inr (1, [.int (iI ((cn k : Nat) : Int)), .ref (ad (b + 1 + 4 * k + 1)), .ref (ad (b + 1 + 4 * k + 2)), .ref (ad (b + 1 + 4 * k + 3))])) → (∀ k, k < 2 → w2 (b + 1 + 4 * k + 1) = aI G 8 (fun q => (vl k q : Int))) → w2 e0 = .inr (2, [.int (iI ((en : Nat) : Int)), .ref (ad (e0 + 1)), .ref (ad (e0 + 2)), .ref (ad (e0 + 3)), .ref (ad (e0 + 4))]) → w2 (e0 + 1) = aI G 20 (fun q => (pr q : Int)) → w2 (e0 + 2) = aI G 20 (fun q => (sq q : Int)) → w2 (e0 + 3) = aI G 20 (fun q => (co q : Int)) → w2 (e0 + 4) = aI G 20 (fun q => (nu q : Int)) → w2 (b + 5) = .inr (1, [.int (iI ((cn 1 : Nat) : Int)), .ref (ad ((b + 5) + 1)), .ref (ad ((b + 5) + 2)), .ref (ad ((b + 5) + 3))]) → w2 ((b + 5) + 1) = aI G 8 (fun q => (vl 1 q : Int)) → w2 ((b + 5) + 2) = aI G 8 (fun q => (fal q : Int)) → w2 ((b + 5) + 3) = aI G 2001 lst → w2 (x + 67) = aI G 8 rv → va_P G.1 vwCl (nL N ad w2) H → va_S (nA N ad s.heap.size) s.heap H locs → lv_has ls 9 [(0, .ref (ad x)), (1, .ref (ad e0)), (2, .int (iI ((kk : Nat) : Int))), (3, .int (iI (mlB (fun q9 => wfR (vl 1) fal lst (chI ra rb vl pr sq co nu q9).toNat (fun _ => 0) (cn 1) kk) (fun q9 => mlA sq co nu kk q9) q))), (4, .int (iI (mlM (fun q9 => wfR (vl 1) fal lst (chI ra rb vl pr sq co nu q9).toNat (fun _ => 0) (cn 1) kk) (fun q9 => mlA sq co nu kk q9) q))), (5, .int (iI ((q : Nat) : Int)))] → W p l e ({ frames := 3, cells := 0, slots := 0, locals := 68 } : Room) s m ([.ref (ad x), .ref (ad e0), .int (iI ((kk : Nat) : Int))] : List Value).toArray below meth cd H locs 0 0 Q (F0 m 8 ls []) := by
    intro fu
    induction fu with
    | zero =>
      intro q rv w2 H locs ls hfu hq hall hB hM hfr f_x f_L f_cn f_vs f_e f_ep f_es f_ec f_en_ f_o2 f_v2 f_f2 f_l2 f_r hP hS hl
      exact absurd hfu (Nat.not_lt_zero _)
    | succ fu ih3 =>
      intro q rv w2 H locs ls hfu hq hall hB hM hfr f_x f_L f_cn f_vs f_e f_ep f_es f_ec f_en_ f_o2 f_v2 f_f2 f_l2 f_r hP hS hl
      refine lv_iload hx hb dX6_mostLacking_8 (lv_at hl 5 rfl) ?_
      refine lv_aload_n hx hb dX6_mostLacking_10 rfl (lv_at hl 1 rfl) ?_
      refine n_get hx hb hts u_X2 hown hK hP (by omega) f_e rfl 0 (by decide) (nT_m wf_X6_206) rfl dX6_mostLacking_11 ?_
      refine n_icmp_ge (tgt := 165) hx hb dX6_mostLacking_14 (by decide) (by omega) (by omega) (fun hc14 => ?_) (fun hc14 => ?_)
      · skip
        refine lv_iload hx hb dX6_mostLacking_165 (lv_at hl 4 rfl) ?_
        refine n_iretP hQ hx hb hr hlocks hP hS dX6_mostLacking_167 ?_
        obtain rfl : q = en := by omega
        exact ⟨hfr, by rw [if_pos hall], ⟨_, f_r⟩⟩
      · skip
        have hxq := hex q (by omega)
        have hcq := hcn (sq q) (by omega)
        have hsr : -200000 ≤ (spI ra rb vl pr sq co nu q) ∧ (spI ra rb vl pr sq co nu q) ≤ 5000000 := spare_rng hxq.2.1.2 (hvl (sq q) (co q)) hra.2 hrb.2 hxq.1.2
        have hcr : -1 ≤ (chI ra rb vl pr sq co nu q) ∧ (chI ra rb vl pr sq co nu q) ≤ 5000000 := chI_rng (by omega) hsr.2
        have hmA : 0 ≤ mlA sq co nu kk q ∧ mlA sq co nu kk q ≤ 50 := by unfold mlA; split <;> omega
        refine lv_aload_n hx hb dX6_mostLacking_17 rfl (lv_at hl 1 rfl) ?_
        refine n_get hx hb hts u_X2 hown hK hP (by omega) f_e rfl 4 (by decide) (nT_m wf_X6_226) rfl dX6_mostLacking_18 ?_
        refine lv_iload hx hb dX6_mostLacking_21 (lv_at hl 5 rfl) ?_
        refine n_iald hx hb hK hP q (by omega) f_en_ (by omega) (by omega) (by decide) dX6_mostLacking_23 ?_
        refine lv_istore (lv' := [(6, .int (iI (nu q : Int))), (0, .ref (ad x)), (1, .ref (ad e0)), (2, .int (iI ((kk : Nat) : Int))), (3, .int (iI (mlB (fun q9 => wfR (vl 1) fal lst (chI ra rb vl pr sq co nu q9).toNat (fun _ => 0) (cn 1) kk) (fun q9 => mlA sq co nu kk q9) q))), (4, .int (iI (mlM (fun q9 => wfR (vl 1) fal lst (chI ra rb vl pr sq co nu q9).toNat (fun _ => 0) (cn 1) kk) (fun q9 => mlA sq co nu kk q9) q))), (5, .int (iI ((q : Nat) : Int)))]) hx hb dX6_mostLacking_24 hl (by decide) rfl (fun ls hl => ?_)
        refine lv_aload_n hx hb dX6_mostLacking_26 rfl (lv_at hl 1 rfl) ?_
        refine n_get hx hb hts u_X6 hown hK hP (by omega) f_x rfl 0 (by decide) (nT_m wf_X6_10) rfl dX6_mostLacking_27 ?_
        refine lv_aload_n hx hb dX6_mostLacking_30 rfl (lv_at hl 2 rfl) ?_
        refine n_get hx hb hts u_X2 hown hK hP (by omega) f_e rfl 1 (by decide) (nT_m wf_X6_229) rfl dX6_mostLacking_31 ?_
        refine lv_iload hx hb dX6_mostLacking_34 (lv_at hl 6 rfl) ?_
        refine n_iald hx hb hK hP q (by omega) f_ep (by omega) (by omega) (by decide) dX6_mostLacking_36 ?_
        refine lv_aload_n hx hb dX6_mostLacking_37 rfl (lv_at hl 2 rfl) ?_
        refine n_get hx hb hts u_X2 hown hK hP (by omega) f_e rfl 2 (by decide) (nT_m wf_X6_232) rfl dX6_mostLacking_38 ?_
        refine lv_iload hx hb dX6_mostLacking_41 (lv_at hl 6 rfl) ?_
        refine n_iald hx hb hK hP q (by omega) f_es (by omega) (by omega) (by decide) dX6_mostLacking_43 ?_
        refine lv_aload_n hx hb dX6_mostLacking_44 rfl (lv_at hl 2 rfl) ?_
        refine n_get hx hb hts u_X2 hown hK hP (by omega) f_e rfl 3 (by decide) (nT_m wf_X6_235) rfl dX6_mostLacking_45 ?_
        refine lv_iload hx hb dX6_mostLacking_48 (lv_at hl 6 rfl) ?_
        refine n_iald hx hb hK hP q (by omega) f_ec (by omega) (by omega) (by decide) dX6_mostLacking_50 ?_
        refine lv_iload hx hb dX6_mostLacking_51 (lv_at hl 0 rfl) ?_
        refine n_rdF (v := .int (iI (spI ra rb vl pr sq co nu q))) (va_runV (As := [.int (iI (pr q : Int)), .int (iI (sq q : Int)), .int (iI (co q : Int)), .int (iI (nu q : Int))]) (rest := []) ⟨hx, hb, hml, hown, hts⟩ (c_X4_spareParts _ _ _ _ _ (sq q) (cn (sq q)) (vl (sq q)) (pr q) (co q) (nu q) (by omega) (by omega) (by omega) (hvl (sq q)) (by omega) f_L (f_cn (sq q) (by omega)) (f_vs (sq q) (by omega))) (cwV 4 hts (nT_V wl_X6_156 wi_X4_spareParts ws_X4_spareParts wn_X4 wc_X4_spareParts) rfl rfl rfl (by decide +kernel) ⟨Nat.le_of_ble_eq_true rfl, Nat.le_of_ble_eq_true rfl⟩) (nB.preV hK hI hP (by omega) f_L rfl rfl) rfl rfl hl.1 rfl (lv_room (Nat.le_of_ble_eq_true rfl)) dX6_mostLacking_53 ⟨Nat.zero_le _, Nat.zero_le _⟩) ?_
        refine lv_istore (lv' := [(7, .int (iI (spI ra rb vl pr sq co nu q))), (6, .int (iI (nu q : Int))), (0, .ref (ad x)), (1, .ref (ad e0)), (2, .int (iI ((kk : Nat) : Int))), (3, .int (iI (mlB (fun q9 => wfR (vl 1) fal lst (chI ra rb vl pr sq co nu q9).toNat (fun _ => 0) (cn 1) kk) (fun q9 => mlA sq co nu kk q9) q))), (4, .int (iI (mlM (fun q9 => wfR (vl 1) fal lst (chI ra rb vl pr sq co nu q9).toNat (fun _ => 0) (cn 1) kk) (fun q9 => mlA sq co nu kk q9) q))), (5, .int (iI ((q : Nat) : Int)))]) hx hb dX6_mostLacking_56 hl (by decide) rfl (fun ls hl => ?_)
        have lp4 : ∀ (w5 : Nat → va_E) (H : Heap) (locs : List Loc), ∀ (ls : Array Slot), (∀ j, j ≠ (x + 67) → w5 j = w j) → w5 x = .inr (6, [.ref (ad b), .ref (ad (x + 51)), .ref (ad (x + 52)), .ref (ad (x + 53)), .ref (ad (x + 67)), .ref (ad (x + 68))]) → w5 b = .inr (4, [.ref (ad (b + 1)), .ref (ad (b + 5)), .ref (ad (b + 9)), .ref (ad (b + 12)), .ref (ad (b + 13)), .int (iI ((tn : Nat) : Int)), .int (iI ((ra : Nat) : Int)), .int (iI ((rb : Nat) : Int)), .int (iI ((stp : Nat) : Int))]) → (∀ k, k < 2 → w5 (b + 1 + 4 * k) = .inr (1, [.int (iI ((cn k : Nat) : Int)), .ref (ad (b + 1 + 4 * k + 1)), .ref (ad (b + 1 + 4 * k + 2)), .ref (ad (b + 1 + 4 * k + 3))])) → (∀ k, k < 2 → w5 (b + 1 + 4 * k + 1) = aI G 8 (fun q => (vl k q : Int))) → w5 e0 = .inr (2, [.int (iI ((en : Nat) : Int)), .ref (ad (e0 + 1)), .ref (ad (e0 + 2)), .ref (ad (e0 + 3)), .ref (ad (e0 + 4))]) → w5 (e0 + 1) = aI G 20 (fun q => (pr q : Int)) → w5 (e0 + 2) = aI G 20 (fun q => (sq q : Int)) → w5 (e0 + 3) = aI G 20 (fun q => (co q : Int)) → w5 (e0 + 4) = aI G 20 (fun q => (nu q : Int)) → w5 (b + 5) = .inr (1, [.int (iI ((cn 1 : Nat) : Int)), .ref (ad ((b + 5) + 1)), .ref (ad ((b + 5) + 2)), .ref (ad ((b + 5) + 3))]) → w5 ((b + 5) + 1) = aI G 8 (fun q => (vl 1 q : Int)) → w5 ((b + 5) + 2) = aI G 8 (fun q => (fal q : Int)) → w5 ((b + 5) + 3) = aI G 2001 lst → w5 (x + 67) = aI G 8 rv → va_P G.1 vwCl (nL N ad w5) H → va_S (nA N ad s.heap.size) s.heap H locs → lv_has ls 9 [(0, .ref (ad x)), (1, .ref (ad e0)), (2, .int (iI ((kk : Nat) : Int))), (3, .int (iI (mlB (fun q9 => wfR (vl 1) fal lst (chI ra rb vl pr sq co nu q9).toNat (fun _ => 0) (cn 1) kk) (fun q9 => mlA sq co nu kk q9) q))), (4, .int (iI (mlM (fun q9 => wfR (vl 1) fal lst (chI ra rb vl pr sq co nu q9).toNat (fun _ => 0) (cn 1) kk) (fun q9 => mlA sq co nu kk q9) q))), (5, .int (iI ((q : Nat) : Int))), (6, .int (iI ((nu q : Nat) : Int))), (8, .int (iI (chI ra rb vl pr sq co nu q)))] → W p l e ({ frames := 3, cells := 0, slots := 0, locals := 68 } : Room) s m ([.ref (ad x), .ref (ad e0), .int (iI ((kk : Nat) : Int))] : List Value).toArray below meth cd H locs 0 0 Q (F0 m 81 ls []) := by
          intro w5 H locs ls hfr f_x f_L f_cn f_vs f_e f_ep f_es f_ec f_en_ f_o2 f_v2 f_f2 f_l2 f_r hP hS hl
          refine lv_aload_n hx hb dX6_mostLacking_81 rfl (lv_at hl 0 rfl) ?_
          refine n_get hx hb hts u_X6 hown hK hP (by omega) f_x rfl 0 (by decide) (nT_m wf_X6_10) rfl dX6_mostLacking_82 ?_
          refine n_get hx hb hts u_X4 hown hK hP (by omega) f_L rfl 1 (by decide) (nT_m wf_X6_163) rfl dX6_mostLacking_85 ?_
          refine lv_iload hx hb dX6_mostLacking_88 (lv_at hl 7 rfl) ?_
          refine n_rdF (va_runV (As := [.int (iI (chI ra rb vl pr sq co nu q))]) (rest := []) ⟨hx, hb, hml, hown, hts⟩ (c_X1_hasFewest (b + 5) (cn 1) (chI ra rb vl pr sq co nu q) lst (by omega) (by omega) hlst f_o2 f_l2) (cwV 1 hts (nT_V wl_X6_111 wi_X1_hasFewest ws_X1_hasFewest wn_X1 wc_X1_hasFewest) rfl rfl rfl (by decide +kernel) ⟨Nat.le_of_ble_eq_true rfl, Nat.le_of_ble_eq_true rfl⟩) (nB.preV hK hI hP (by omega) f_o2 rfl rfl) rfl rfl hl.1 rfl (lv_room (Nat.le_of_ble_eq_true rfl)) dX6_mostLacking_90 ⟨Nat.zero_le _, Nat.zero_le _⟩) ?_
          refine n_if_neB (tgt := 98) hx hb dX6_mostLacking_93 (by decide) (fun hc93 => ?_) (fun hc93 => ?_)
          · skip
            have lp7 : ∀ (w8 : Nat → va_E) (H : Heap) (locs : List Loc), ∀ (ls : Array Slot), (∀ j, j ≠ (x + 67) → w8 j = w j) → w8 x = .inr (6, [.ref (ad b), .ref (ad (x + 51)), .ref (ad (x + 52)), .ref (ad (x + 53)), .ref (ad (x + 67)), .ref (ad (x + 68))]) → w8 b = .inr (4, [.ref (ad (b + 1)), .ref (ad (b + 5)), .ref (ad (b + 9)), .ref (ad (b + 12)), .ref (ad (b + 13)), .int (iI ((tn : Nat) : Int)), .int (iI ((ra : Nat) : Int)), .int (iI ((rb : Nat) : Int)), .int (iI ((stp : Nat) : Int))]) → (∀ k, k < 2 → w8 (b + 1 + 4 * k) = .inr (1, [.int (iI ((cn k : Nat) : Int)), .ref (ad (b + 1 + 4 * k + 1)), .ref (ad (b + 1 + 4 * k + 2)), .ref (ad (b + 1 + 4 * k + 3))])) → (∀ k, k < 2 → w8 (b + 1 + 4 * k + 1) = aI G 8 (fun q => (vl k q : Int))) → w8 e0 = .inr (2, [.int (iI ((en : Nat) : Int)), .ref (ad (e0 + 1)), .ref (ad (e0 + 2)), .ref (ad (e0 + 3)), .ref (ad (e0 + 4))]) → w8 (e0 + 1) = aI G 20 (fun q => (pr q : Int)) → w8 (e0 + 2) = aI G 20 (fun q => (sq q : Int)) → w8 (e0 + 3) = aI G 20 (fun q => (co q : Int)) → w8 (e0 + 4) = aI G 20 (fun q => (nu q : Int)) → w8 (b + 5) = .inr (1, [.int (iI ((cn 1 : Nat) : Int)), .ref (ad ((b + 5) + 1)), .ref (ad ((b + 5) + 2)), .ref (ad ((b + 5) + 3))]) → w8 ((b + 5) + 1) = aI G 8 (fun q => (vl 1 q : Int)) → w8 ((b + 5) + 2) = aI G 8 (fun q => (fal q : Int)) → w8 ((b + 5) + 3) = aI G 2001 lst → w8 (x + 67) = aI G 8 rv → va_P G.1 vwCl (nL N ad w8) H → va_S (nA N ad s.heap.size) s.heap H locs → lv_has ls 9 [(0, .ref (ad x)), (1, .ref (ad e0)), (2, .int (iI ((kk : Nat) : Int))), (3, .int (iI ((mlB (fun q9 => wfR (vl 1) fal lst (chI ra rb vl pr sq co nu q9).toNat (fun _ => 0) (cn 1) kk) (fun q9 => mlA sq co nu kk q9) q) + mlA sq co nu kk q))), (4, .int (iI (mlM (fun q9 => wfR (vl 1) fal lst (chI ra rb vl pr sq co nu q9).toNat (fun _ => 0) (cn 1) kk) (fun q9 => mlA sq co nu kk q9) q))), (5, .int (iI ((q : Nat) : Int))), (6, .int (iI ((nu q : Nat) : Int))), (8, .int (iI (chI ra rb vl pr sq co nu q)))] → W p l e ({ frames := 3, cells := 0, slots := 0, locals := 68 } : Room) s m ([.ref (ad x), .ref (ad e0), .int (iI ((kk : Nat) : Int))] : List Value).toArray below meth cd H locs 0 0 Q (F0 m 125 ls []) := by
              intro w8 H locs ls hfr f_x f_L f_cn f_vs f_e f_ep f_es f_ec f_en_ f_o2 f_v2 f_f2 f_l2 f_r hP hS hl
              refine lv_aload_n hx hb dX6_mostLacking_125 rfl (lv_at hl 0 rfl) ?_
              refine n_get hx hb hts u_X6 hown hK hP (by omega) f_x rfl 0 (by decide) (nT_m wf_X6_10) rfl dX6_mostLacking_126 ?_
              refine n_get hx hb hts u_X4 hown hK hP (by omega) f_L rfl 1 (by decide) (nT_m wf_X6_163) rfl dX6_mostLacking_129 ?_
              refine lv_iload hx hb dX6_mostLacking_132 (lv_at hl 7 rfl) ?_
              refine lv_aload_n hx hb dX6_mostLacking_134 rfl (lv_at hl 0 rfl) ?_
              refine n_get hx hb hts u_X6 hown hK hP (by omega) f_x rfl 4 (by decide) (nT_m wf_X6_31) rfl dX6_mostLacking_135 ?_
              rw [show (chI ra rb vl pr sq co nu q) = (((chI ra rb vl pr sq co nu q).toNat : Nat) : Int) by omega]
              refine n_cV (va_runV (As := [.int (iI (((chI ra rb vl pr sq co nu q).toNat : Nat) : Int)), .ref (ad (x + 67))]) (rest := []) ⟨hx, hb, hml, hown, hts⟩ (c_X1_writeFewest (b + 5) (cn 1) (vl 1) fal lst (chI ra rb vl pr sq co nu q).toNat (x + 67) rv (by omega) (hcn 1 (by omega)) (hvl 1) hval1 hfal hlst (by omega) (by omega) f_o2 f_v2 f_f2 f_l2 f_r) (cwV 2 hts (nT_V wl_X6_120 wi_X1_writeFewest ws_X1_writeFewest wn_X1 wc_X1_writeFewest) rfl rfl rfl (by decide +kernel) ⟨Nat.le_of_ble_eq_true rfl, Nat.le_of_ble_eq_true rfl⟩) (nB.preV hK hI hP (by omega) f_o2 rfl rfl) rfl rfl hl.1 rfl (lv_room (Nat.le_of_ble_eq_true rfl)) dX6_mostLacking_138 ⟨Nat.zero_le _, Nat.zero_le _⟩) hS (fun w10 H locs hq12 hP hS => ?_)
              obtain ⟨hne13, hp9⟩ := hq12
              have f_x := (hne13 x (by omega)).trans f_x
              have f_L := (hne13 b (by omega)).trans f_L
              have f_cn : ∀ k, k < 2 → w10 (b + 1 + 4 * k) = .inr (1, [.int (iI ((cn k : Nat) : Int)), .ref (ad (b + 1 + 4 * k + 1)), .ref (ad (b + 1 + 4 * k + 2)), .ref (ad (b + 1 + 4 * k + 3))]) := fun k hk9 => (hne13 _ (by omega)).trans (f_cn _ hk9)
              have f_vs : ∀ k, k < 2 → w10 (b + 1 + 4 * k + 1) = aI G 8 (fun q => (vl k q : Int)) := fun k hk9 => (hne13 _ (by omega)).trans (f_vs _ hk9)
              have f_e := (hne13 e0 (by omega)).trans f_e
              have f_ep := (hne13 (e0 + 1) (by omega)).trans f_ep
              have f_es := (hne13 (e0 + 2) (by omega)).trans f_es
              have f_ec := (hne13 (e0 + 3) (by omega)).trans f_ec
              have f_en_ := (hne13 (e0 + 4) (by omega)).trans f_en_
              have f_o2 := (hne13 (b + 5) (by omega)).trans f_o2
              have f_v2 := (hne13 ((b + 5) + 1) (by omega)).trans f_v2
              have f_f2 := (hne13 ((b + 5) + 2) (by omega)).trans f_f2
              have f_l2 := (hne13 ((b + 5) + 3) (by omega)).trans f_l2
              have f_r : w10 (x + 67) = aI G 8 (wfR (vl 1) fal lst (chI ra rb vl pr sq co nu q).toNat rv (cn 1)) := hp9
              have hfr : ∀ j, j ≠ (x + 67) → w10 j = w j := fun j a0 => (hne13 j (by omega)).trans (hfr j a0)
              refine lv_iload_n hx hb dX6_mostLacking_141 rfl (lv_at hl 3 rfl) ?_
              refine lv_aload_n hx hb dX6_mostLacking_142 rfl (lv_at hl 0 rfl) ?_
              refine n_get hx hb hts u_X6 hown hK hP (by omega) f_x rfl 4 (by decide) (nT_m wf_X6_31) rfl dX6_mostLacking_143 ?_
              refine lv_iload_n hx hb dX6_mostLacking_146 rfl (lv_at hl 2 rfl) ?_
              refine n_iald hx hb hK hP kk (by omega) f_r (by omega) (by omega) (by decide) dX6_mostLacking_147 ?_
              have hwi : wfR (vl 1) fal lst (chI ra rb vl pr sq co nu q).toNat rv (cn 1) kk = wfR (vl 1) fal lst (chI ra rb vl pr sq co nu q).toNat (fun _ => 0) (cn 1) kk := wfR_ind (cn 1) (hsur kk hk)
              have hwr := wfR_rng (val := vl 1) (fal := fal) (lst := lst) (sum := (chI ra rb vl pr sq co nu q).toNat) (by omega) (cn 1) kk
              refine n_isub hx hb dX6_mostLacking_148 ?_
              refine lv_istore_n (lv' := [(3, .int (iI (((mlB (fun q9 => wfR (vl 1) fal lst (chI ra rb vl pr sq co nu q9).toNat (fun _ => 0) (cn 1) kk) (fun q9 => mlA sq co nu kk q9) q) + mlA sq co nu kk q) - (wfR (vl 1) fal lst (chI ra rb vl pr sq co nu q).toNat rv (cn 1)) kk))), (0, .ref (ad x)), (1, .ref (ad e0)), (2, .int (iI ((kk : Nat) : Int))), (4, .int (iI (mlM (fun q9 => wfR (vl 1) fal lst (chI ra rb vl pr sq co nu q9).toNat (fun _ => 0) (cn 1) kk) (fun q9 => mlA sq co nu kk q9) q))), (5, .int (iI ((q : Nat) : Int))), (6, .int (iI ((nu q : Nat) : Int))), (8, .int (iI (chI ra rb vl pr sq co nu q)))]) hx hb dX6_mostLacking_149 rfl hl (by decide) rfl (fun ls hl => ?_)
              refine lv_iload hx hb dX6_mostLacking_150 (lv_at hl 4 rfl) ?_
              refine lv_iload_n hx hb dX6_mostLacking_152 rfl (lv_at hl 0 rfl) ?_
              refine n_ineg hx hb dX6_mostLacking_153 ?_
              refine n_mmax hx hb (hml.trans hl.1.symm) hown (hts _ (nT_m wl_X6_238)) (hts _ (nT_m wt_J9_max_7cf53)) (hts _ (nT_m wn_J9)) (hts _ (nT_m wc_J9_max_7cf53)) (Nat.le_of_ble_eq_true rfl) (Nat.le_of_ble_eq_true rfl) (Nat.zero_le _) (Nat.zero_le _) (by omega) (by omega) dX6_mostLacking_154 ?_
              refine lv_istore (lv' := [(4, .int (iI (max (mlM (fun q9 => wfR (vl 1) fal lst (chI ra rb vl pr sq co nu q9).toNat (fun _ => 0) (cn 1) kk) (fun q9 => mlA sq co nu kk q9) q) (-(((mlB (fun q9 => wfR (vl 1) fal lst (chI ra rb vl pr sq co nu q9).toNat (fun _ => 0) (cn 1) kk) (fun q9 => mlA sq co nu kk q9) q) + mlA sq co nu kk q) - (wfR (vl 1) fal lst (chI ra rb vl pr sq co nu q).toNat rv (cn 1)) kk))))), (3, .int (iI (((mlB (fun q9 => wfR (vl 1) fal lst (chI ra rb vl pr sq co nu q9).toNat (fun _ => 0) (cn 1) kk) (fun q9 => mlA sq co nu kk q9) q) + mlA sq co nu kk q) - (wfR (vl 1) fal lst (chI ra rb vl pr sq co nu q).toNat rv (cn 1)) kk))), (0, .ref (ad x)), (1, .ref (ad e0)), (2, .int (iI ((kk : Nat) : Int))), (5, .int (iI ((q : Nat) : Int))), (6, .int (iI ((nu q : Nat) : Int))), (8, .int (iI (chI ra rb vl pr sq co nu q)))]) hx hb dX6_mostLacking_157 hl (by decide) rfl (fun ls hl => ?_)
              refine lv_iinc (v := iI (((q : Nat) : Int) + 1)) (lv' := [(5, .int (iI (((q : Nat) : Int) + 1))), (4, .int (iI (max (mlM (fun q9 => wfR (vl 1) fal lst (chI ra rb vl pr sq co nu q9).toNat (fun _ => 0) (cn 1) kk) (fun q9 => mlA sq co nu kk q9) q) (-(((mlB (fun q9 => wfR (vl 1) fal lst (chI ra rb vl pr sq co nu q9).toNat (fun _ => 0) (cn 1) kk) (fun q9 => mlA sq co nu kk q9) q) + mlA sq co nu kk q) - (wfR (vl 1) fal lst (chI ra rb vl pr sq co nu q).toNat rv (cn 1)) kk))))), (3, .int (iI (((mlB (fun q9 => wfR (vl 1) fal lst (chI ra rb vl pr sq co nu q9).toNat (fun _ => 0) (cn 1) kk) (fun q9 => mlA sq co nu kk q9) q) + mlA sq co nu kk q) - (wfR (vl 1) fal lst (chI ra rb vl pr sq co nu q).toNat rv (cn 1)) kk))), (0, .ref (ad x)), (1, .ref (ad e0)), (2, .int (iI ((kk : Nat) : Int))), (6, .int (iI ((nu q : Nat) : Int))), (8, .int (iI (chI ra rb vl pr sq co nu q)))]) hx hb dX6_mostLacking_159 hl (k := 5) rfl (by first | exact iI_add _ _ | exact (iI_add _ _).trans (congrArg iI (by omega))) (by decide) rfl (fun ls hl => ?_)
              refine lv_goto (tgt := 8) hx hb dX6_mostLacking_162 (by decide) ?_
              have eB : (mlB (fun q9 => wfR (vl 1) fal lst (chI ra rb vl pr sq co nu q9).toNat (fun _ => 0) (cn 1) kk) (fun q9 => mlA sq co nu kk q9) (q + 1)) = (mlB (fun q9 => wfR (vl 1) fal lst (chI ra rb vl pr sq co nu q9).toNat (fun _ => 0) (cn 1) kk) (fun q9 => mlA sq co nu kk q9) q) + mlA sq co nu kk q - wfR (vl 1) fal lst (chI ra rb vl pr sq co nu q).toNat (fun _ => 0) (cn 1) kk := rfl
              have eM : (mlM (fun q9 => wfR (vl 1) fal lst (chI ra rb vl pr sq co nu q9).toNat (fun _ => 0) (cn 1) kk) (fun q9 => mlA sq co nu kk q9) (q + 1)) = max (mlM (fun q9 => wfR (vl 1) fal lst (chI ra rb vl pr sq co nu q9).toNat (fun _ => 0) (cn 1) kk) (fun q9 => mlA sq co nu kk q9) q) (-(mlB (fun q9 => wfR (vl 1) fal lst (chI ra rb vl pr sq co nu q9).toNat (fun _ => 0) (cn 1) kk) (fun q9 => mlA sq co nu kk q9) (q + 1))) := rfl
              exact ih3 (q + 1) (wfR (vl 1) fal lst (chI ra rb vl pr sq co nu q).toNat rv (cn 1)) _ _ _ _ (by omega) (by omega) (allB_t hall (decide_eq_true hc93)) (by omega) (by omega) hfr f_x f_L f_cn f_vs f_e f_ep f_es f_ec f_en_ f_o2 f_v2 f_f2 f_l2 f_r hP hS (by first | exact lv_sub hl [3, 4, 5, 2, 1, 0] rfl | exact lv_cast (lv_sub (l' := [(0, .ref (ad x)), (1, .ref (ad e0)), (2, .int (iI ((kk : Nat) : Int))), (3, .int (iI (((mlB (fun q9 => wfR (vl 1) fal lst (chI ra rb vl pr sq co nu q9).toNat (fun _ => 0) (cn 1) kk) (fun q9 => mlA sq co nu kk q9) q) + mlA sq co nu kk q) - (wfR (vl 1) fal lst (chI ra rb vl pr sq co nu q).toNat rv (cn 1)) kk))), (4, .int (iI (max (mlM (fun q9 => wfR (vl 1) fal lst (chI ra rb vl pr sq co nu q9).toNat (fun _ => 0) (cn 1) kk) (fun q9 => mlA sq co nu kk q9) q) (-(((mlB (fun q9 => wfR (vl 1) fal lst (chI ra rb vl pr sq co nu q9).toNat (fun _ => 0) (cn 1) kk) (fun q9 => mlA sq co nu kk q9) q) + mlA sq co nu kk q) - (wfR (vl 1) fal lst (chI ra rb vl pr sq co nu q).toNat rv (cn 1)) kk))))), (5, .int (iI (((q : Nat) : Int) + 1)))]) hl [3, 4, 5, 2, 1, 0] rfl) (lc_s (lc_s (lc_s (lc_i (show ((((mlB (fun q9 => wfR (vl 1) fal lst (chI ra rb vl pr sq co nu q9).toNat (fun _ => 0) (cn 1) kk) (fun q9 => mlA sq co nu kk q9) q) + mlA sq co nu kk q) - (wfR (vl 1) fal lst (chI ra rb vl pr sq co nu q).toNat rv (cn 1)) kk) : Int) = (mlB (fun q9 => wfR (vl 1) fal lst (chI ra rb vl pr sq co nu q9).toNat (fun _ => 0) (cn 1) kk) (fun q9 => mlA sq co nu kk q9) (q + 1)) by rw [eB, hwi]) (lc_i (show ((max (mlM (fun q9 => wfR (vl 1) fal lst (chI ra rb vl pr sq co nu q9).toNat (fun _ => 0) (cn 1) kk) (fun q9 => mlA sq co nu kk q9) q) (-(((mlB (fun q9 => wfR (vl 1) fal lst (chI ra rb vl pr sq co nu q9).toNat (fun _ => 0) (cn 1) kk) (fun q9 => mlA sq co nu kk q9) q) + mlA sq co nu kk q) - (wfR (vl 1) fal lst (chI ra rb vl pr sq co nu q).toNat rv (cn 1)) kk))) : Int) = (mlM (fun q9 => wfR (vl 1) fal lst (chI ra rb vl pr sq co nu q9).toNat (fun _ => 0) (cn 1) kk) (fun q9 => mlA sq co nu kk q9) (q + 1)) by rw [eM, eB, hwi]) (lc_i (show ((((q : Nat) : Int) + 1) : Int) = (((q + 1) : Nat) : Int) by omega) rfl)))))))
            refine lv_aload_n hx hb dX6_mostLacking_98 rfl (lv_at hl 1 rfl) ?_
            refine n_get hx hb hts u_X2 hown hK hP (by omega) f_e rfl 2 (by decide) (nT_m wf_X6_232) rfl dX6_mostLacking_99 ?_
            refine lv_iload hx hb dX6_mostLacking_102 (lv_at hl 5 rfl) ?_
            refine n_iald hx hb hK hP q (by omega) f_es (by omega) (by omega) (by decide) dX6_mostLacking_104 ?_
            refine n_iconst hx hb dX6_mostLacking_105 ?_
            refine n_icmp_ne (tgt := 125) hx hb dX6_mostLacking_106 (by decide) (by omega) (by omega) (fun hc106 => ?_) (fun hc106 => ?_)
            · skip
              exact lp7 _ _ _ _ hfr f_x f_L f_cn f_vs f_e f_ep f_es f_ec f_en_ f_o2 f_v2 f_f2 f_l2 f_r hP hS (by first | exact lv_sub hl [0, 1, 2, 3, 4, 5, 6, 7] rfl | exact lv_cast (lv_sub (l' := [(0, .ref (ad x)), (1, .ref (ad e0)), (2, .int (iI ((kk : Nat) : Int))), (3, .int (iI (mlB (fun q9 => wfR (vl 1) fal lst (chI ra rb vl pr sq co nu q9).toNat (fun _ => 0) (cn 1) kk) (fun q9 => mlA sq co nu kk q9) q))), (4, .int (iI (mlM (fun q9 => wfR (vl 1) fal lst (chI ra rb vl pr sq co nu q9).toNat (fun _ => 0) (cn 1) kk) (fun q9 => mlA sq co nu kk q9) q))), (5, .int (iI ((q : Nat) : Int))), (6, .int (iI ((nu q : Nat) : Int))), (8, .int (iI (chI ra rb vl pr sq co nu q)))]) hl [0, 1, 2, 3, 4, 5, 6, 7] rfl) (lc_s (lc_s (lc_s (lc_i (show ((mlB (fun q9 => wfR (vl 1) fal lst (chI ra rb vl pr sq co nu q9).toNat (fun _ => 0) (cn 1) kk) (fun q9 => mlA sq co nu kk q9) q) : Int) = ((mlB (fun q9 => wfR (vl 1) fal lst (chI ra rb vl pr sq co nu q9).toNat (fun _ => 0) (cn 1) kk) (fun q9 => mlA sq co nu kk q9) q) + mlA sq co nu kk q) by rw [show mlA sq co nu kk q = 0 from if_neg (by omega)]; omega) (lc_s (lc_s (lc_s (lc_s rfl)))))))))
            · skip
              refine lv_aload_n hx hb dX6_mostLacking_109 rfl (lv_at hl 1 rfl) ?_
              refine n_get hx hb hts u_X2 hown hK hP (by omega) f_e rfl 3 (by decide) (nT_m wf_X6_235) rfl dX6_mostLacking_110 ?_
              refine lv_iload hx hb dX6_mostLacking_113 (lv_at hl 5 rfl) ?_
              refine n_iald hx hb hK hP q (by omega) f_ec (by omega) (by omega) (by decide) dX6_mostLacking_115 ?_
              refine lv_iload_n hx hb dX6_mostLacking_116 rfl (lv_at hl 2 rfl) ?_
              refine n_icmp_ne (tgt := 125) hx hb dX6_mostLacking_117 (by decide) (by omega) (by omega) (fun hc117 => ?_) (fun hc117 => ?_)
              · skip
                exact lp7 _ _ _ _ hfr f_x f_L f_cn f_vs f_e f_ep f_es f_ec f_en_ f_o2 f_v2 f_f2 f_l2 f_r hP hS (by first | exact lv_sub hl [0, 1, 2, 3, 4, 5, 6, 7] rfl | exact lv_cast (lv_sub (l' := [(0, .ref (ad x)), (1, .ref (ad e0)), (2, .int (iI ((kk : Nat) : Int))), (3, .int (iI (mlB (fun q9 => wfR (vl 1) fal lst (chI ra rb vl pr sq co nu q9).toNat (fun _ => 0) (cn 1) kk) (fun q9 => mlA sq co nu kk q9) q))), (4, .int (iI (mlM (fun q9 => wfR (vl 1) fal lst (chI ra rb vl pr sq co nu q9).toNat (fun _ => 0) (cn 1) kk) (fun q9 => mlA sq co nu kk q9) q))), (5, .int (iI ((q : Nat) : Int))), (6, .int (iI ((nu q : Nat) : Int))), (8, .int (iI (chI ra rb vl pr sq co nu q)))]) hl [0, 1, 2, 3, 4, 5, 6, 7] rfl) (lc_s (lc_s (lc_s (lc_i (show ((mlB (fun q9 => wfR (vl 1) fal lst (chI ra rb vl pr sq co nu q9).toNat (fun _ => 0) (cn 1) kk) (fun q9 => mlA sq co nu kk q9) q) : Int) = ((mlB (fun q9 => wfR (vl 1) fal lst (chI ra rb vl pr sq co nu q9).toNat (fun _ => 0) (cn 1) kk) (fun q9 => mlA sq co nu kk q9) q) + mlA sq co nu kk q) by rw [show mlA sq co nu kk q = 0 from if_neg (by omega)]; omega) (lc_s (lc_s (lc_s (lc_s rfl)))))))))
              · skip
                refine lv_iload_n hx hb dX6_mostLacking_120 rfl (lv_at hl 3 rfl) ?_
                refine lv_iload hx hb dX6_mostLacking_121 (lv_at hl 6 rfl) ?_
                refine n_iadd hx hb dX6_mostLacking_123 ?_
                refine lv_istore_n (lv' := [(3, .int (iI ((mlB (fun q9 => wfR (vl 1) fal lst (chI ra rb vl pr sq co nu q9).toNat (fun _ => 0) (cn 1) kk) (fun q9 => mlA sq co nu kk q9) q) + ((nu q : Nat) : Int)))), (0, .ref (ad x)), (1, .ref (ad e0)), (2, .int (iI ((kk : Nat) : Int))), (4, .int (iI (mlM (fun q9 => wfR (vl 1) fal lst (chI ra rb vl pr sq co nu q9).toNat (fun _ => 0) (cn 1) kk) (fun q9 => mlA sq co nu kk q9) q))), (5, .int (iI ((q : Nat) : Int))), (6, .int (iI ((nu q : Nat) : Int))), (8, .int (iI (chI ra rb vl pr sq co nu q)))]) hx hb dX6_mostLacking_124 rfl hl (by decide) rfl (fun ls hl => ?_)
                exact lp7 _ _ _ _ hfr f_x f_L f_cn f_vs f_e f_ep f_es f_ec f_en_ f_o2 f_v2 f_f2 f_l2 f_r hP hS (by first | exact lv_sub hl [1, 2, 3, 0, 4, 5, 6, 7] rfl | exact lv_cast (lv_sub (l' := [(0, .ref (ad x)), (1, .ref (ad e0)), (2, .int (iI ((kk : Nat) : Int))), (3, .int (iI ((mlB (fun q9 => wfR (vl 1) fal lst (chI ra rb vl pr sq co nu q9).toNat (fun _ => 0) (cn 1) kk) (fun q9 => mlA sq co nu kk q9) q) + ((nu q : Nat) : Int)))), (4, .int (iI (mlM (fun q9 => wfR (vl 1) fal lst (chI ra rb vl pr sq co nu q9).toNat (fun _ => 0) (cn 1) kk) (fun q9 => mlA sq co nu kk q9) q))), (5, .int (iI ((q : Nat) : Int))), (6, .int (iI ((nu q : Nat) : Int))), (8, .int (iI (chI ra rb vl pr sq co nu q)))]) hl [1, 2, 3, 0, 4, 5, 6, 7] rfl) (lc_s (lc_s (lc_s (lc_i (show (((mlB (fun q9 => wfR (vl 1) fal lst (chI ra rb vl pr sq co nu q9).toNat (fun _ => 0) (cn 1) kk) (fun q9 => mlA sq co nu kk q9) q) + ((nu q : Nat) : Int)) : Int) = ((mlB (fun q9 => wfR (vl 1) fal lst (chI ra rb vl pr sq co nu q9).toNat (fun _ => 0) (cn 1) kk) (fun q9 => mlA sq co nu kk q9) q) + mlA sq co nu kk q) by rw [show mlA sq co nu kk q = ((nu q : Nat) : Int) from if_pos (by omega)]) (lc_s (lc_s (lc_s (lc_s rfl)))))))))
          · skip
            refine n_iconst hx hb dX6_mostLacking_96 ?_
            refine n_iretP hQ hx hb hr hlocks hP hS dX6_mostLacking_97 ?_
            exact ⟨hfr, by rw [if_neg (by rw [allB_f (P := (fun q9 => okI lst (chI ra rb vl pr sq co nu q9))) (q := q) (decide_eq_false hc93) en (by omega)]; decide)], ⟨_, f_r⟩⟩
        refine lv_iload hx hb dX6_mostLacking_58 (lv_at hl 0 rfl) ?_
        refine n_if_ge (tgt := 67) hx hb dX6_mostLacking_60 (by decide) (by omega) (fun hc60 => ?_) (fun hc60 => ?_)
        · skip
          refine lv_iload hx hb dX6_mostLacking_67 (lv_at hl 0 rfl) ?_
          refine lv_aload_n hx hb dX6_mostLacking_69 rfl (lv_at hl 2 rfl) ?_
          refine n_get hx hb hts u_X6 hown hK hP (by omega) f_x rfl 0 (by decide) (nT_m wf_X6_10) rfl dX6_mostLacking_70 ?_
          refine n_get hx hb hts u_X4 hown hK hP (by omega) f_L rfl 7 (by decide) (nT_m wf_X6_61) rfl dX6_mostLacking_73 ?_
          refine n_rdF (va_runS (As := [.int (iI (spI ra rb vl pr sq co nu q)), .int (iI ((rb : Nat) : Int))]) (rest := []) ⟨hx, hb, hml, hown, hts⟩ (c_X6_wholeTimes (spI ra rb vl pr sq co nu q) ((rb : Nat) : Int) (by omega) (by omega)) (va_cwS 2 hts (nT_S wl_X6_160 wt_X6_wholeTimes wn_X6 wc_X6_wholeTimes) rfl rfl rfl (by decide +kernel) ⟨Nat.le_of_ble_eq_true rfl, Nat.le_of_ble_eq_true rfl⟩) preEq rfl rfl hl.1 rfl (lv_room (Nat.le_of_ble_eq_true rfl)) dX6_mostLacking_76 ⟨Nat.zero_le _, Nat.zero_le _⟩) ?_
          refine lv_istore (lv' := [(8, .int (iI (chI ra rb vl pr sq co nu q))), (7, .int (iI (spI ra rb vl pr sq co nu q))), (6, .int (iI (nu q : Int))), (0, .ref (ad x)), (1, .ref (ad e0)), (2, .int (iI ((kk : Nat) : Int))), (3, .int (iI (mlB (fun q9 => wfR (vl 1) fal lst (chI ra rb vl pr sq co nu q9).toNat (fun _ => 0) (cn 1) kk) (fun q9 => mlA sq co nu kk q9) q))), (4, .int (iI (mlM (fun q9 => wfR (vl 1) fal lst (chI ra rb vl pr sq co nu q9).toNat (fun _ => 0) (cn 1) kk) (fun q9 => mlA sq co nu kk q9) q))), (5, .int (iI ((q : Nat) : Int)))]) hx hb dX6_mostLacking_79 hl (by decide) (by rw [show (chI ra rb vl pr sq co nu q) = (spI ra rb vl pr sq co nu q) / ((rb : Nat) : Int) from if_neg (by omega)]; rfl) (fun ls hl => ?_)
          exact lp4 _ _ _ _ hfr f_x f_L f_cn f_vs f_e f_ep f_es f_ec f_en_ f_o2 f_v2 f_f2 f_l2 f_r hP hS (by first | exact lv_sub hl [3, 4, 5, 6, 7, 8, 2, 0] rfl | exact lv_cast (lv_sub (l' := [(0, .ref (ad x)), (1, .ref (ad e0)), (2, .int (iI ((kk : Nat) : Int))), (3, .int (iI (mlB (fun q9 => wfR (vl 1) fal lst (chI ra rb vl pr sq co nu q9).toNat (fun _ => 0) (cn 1) kk) (fun q9 => mlA sq co nu kk q9) q))), (4, .int (iI (mlM (fun q9 => wfR (vl 1) fal lst (chI ra rb vl pr sq co nu q9).toNat (fun _ => 0) (cn 1) kk) (fun q9 => mlA sq co nu kk q9) q))), (5, .int (iI ((q : Nat) : Int))), (6, .int (iI (nu q : Int))), (8, .int (iI (chI ra rb vl pr sq co nu q)))]) hl [3, 4, 5, 6, 7, 8, 2, 0] rfl) (lc_s (lc_s (lc_s (lc_s (lc_s (lc_s (lc_i (show ((nu q : Int) : Int) = ((nu q : Nat) : Int) by omega) (lc_s rfl)))))))))
        · skip
          refine n_iconst hx hb dX6_mostLacking_63 ?_
          refine lv_goto (tgt := 79) hx hb dX6_mostLacking_64 (by decide) ?_
          refine lv_istore (lv' := [(8, .int (iI (chI ra rb vl pr sq co nu q))), (7, .int (iI (spI ra rb vl pr sq co nu q))), (6, .int (iI (nu q : Int))), (0, .ref (ad x)), (1, .ref (ad e0)), (2, .int (iI ((kk : Nat) : Int))), (3, .int (iI (mlB (fun q9 => wfR (vl 1) fal lst (chI ra rb vl pr sq co nu q9).toNat (fun _ => 0) (cn 1) kk) (fun q9 => mlA sq co nu kk q9) q))), (4, .int (iI (mlM (fun q9 => wfR (vl 1) fal lst (chI ra rb vl pr sq co nu q9).toNat (fun _ => 0) (cn 1) kk) (fun q9 => mlA sq co nu kk q9) q))), (5, .int (iI ((q : Nat) : Int)))]) hx hb dX6_mostLacking_79 hl (by decide) (by rw [show (chI ra rb vl pr sq co nu q) = -1 from if_pos hc60]; rfl) (fun ls hl => ?_)
          exact lp4 _ _ _ _ hfr f_x f_L f_cn f_vs f_e f_ep f_es f_ec f_en_ f_o2 f_v2 f_f2 f_l2 f_r hP hS (by first | exact lv_sub hl [3, 4, 5, 6, 7, 8, 2, 0] rfl | exact lv_cast (lv_sub (l' := [(0, .ref (ad x)), (1, .ref (ad e0)), (2, .int (iI ((kk : Nat) : Int))), (3, .int (iI (mlB (fun q9 => wfR (vl 1) fal lst (chI ra rb vl pr sq co nu q9).toNat (fun _ => 0) (cn 1) kk) (fun q9 => mlA sq co nu kk q9) q))), (4, .int (iI (mlM (fun q9 => wfR (vl 1) fal lst (chI ra rb vl pr sq co nu q9).toNat (fun _ => 0) (cn 1) kk) (fun q9 => mlA sq co nu kk q9) q))), (5, .int (iI ((q : Nat) : Int))), (6, .int (iI (nu q : Int))), (8, .int (iI (chI ra rb vl pr sq co nu q)))]) hl [3, 4, 5, 6, 7, 8, 2, 0] rfl) (lc_s (lc_s (lc_s (lc_s (lc_s (lc_s (lc_i (show ((nu q : Int) : Int) = ((nu q : Nat) : Int) by omega) (lc_s rfl)))))))))
  exact lp1 (en - 0 + 1) 0 row _ _ _ _ (Nat.lt_succ_self _) (by omega) rfl (by show -(2000 * (0 : Int)) ≤ 0 ∧ (0 : Int) ≤ 50 * 0; decide) (by show (0 : Int) ≤ 0 ∧ (0 : Int) ≤ 2000 * 0; decide) hfr f_x f_L f_cn f_vs f_e f_ep f_es f_ec f_en_ f_o2 f_v2 f_f2 f_l2 f_r hP hS (by first | exact lv_sub hl [3, 4, 5, 2, 1, 0] rfl | exact lv_cast (lv_sub (l' := [(0, .ref (ad x)), (1, .ref (ad e0)), (2, .int (iI ((kk : Nat) : Int))), (3, .int (iI 0)), (4, .int (iI 0)), (5, .int (iI 0))]) hl [3, 4, 5, 2, 1, 0] rfl) (lc_s (lc_s (lc_s (lc_i (show (0 : Int) = (mlB (fun q9 => wfR (vl 1) fal lst (chI ra rb vl pr sq co nu q9).toNat (fun _ => 0) (cn 1) kk) (fun q9 => mlA sq co nu kk q9) 0) by omega) (lc_i (show (0 : Int) = (mlM (fun q9 => wfR (vl 1) fal lst (chI ra rb vl pr sq co nu q9).toNat (fun _ => 0) (cn 1) kk) (fun q9 => mlA sq co nu kk q9) 0) by omega) (lc_i (show (0 : Int) = ((0 : Nat) : Int) by omega) rfl)))))))
set_option maxHeartbeats 4000000 in
set_option maxRecDepth 100000 in
theorem c_X6_wanted_no {l : Launch} {G : nG} {N : Nat} {ad : Nat → Nat} {w : Nat → va_E} {sz : Nat} (x b tn ra rb stp : Nat) (cn sa sc tk : Nat → Nat) (tz z : Int) (hN : x + 218 < N) (hxb : b = x + 1) (hcn : ∀ k, k < 2 → cn k ≤ 8) (htn : tn ≤ 4) (hT : ∀ t, t < 4 → w (b + 14 + 9 * t) = .inr (5, [.ref (ad (b + 14 + 9 * t + 1)), .ref (ad (b + 14 + 9 * t + 2)), .ref (ad (b + 14 + 9 * t + 3)), .ref (ad (b + 14 + 9 * t + 4)), .int (iI ((sa t : Nat) : Int)), .long (jI ((sc t : Nat) : Int)), .long (jI ((tk t : Nat) : Int))])) (htz : -2147483648 ≤ tz ∧ tz < 2147483648) (hz : -2147483648 ≤ z ∧ z < 2147483648) (hno : ¬ ((0 ≤ tz ∧ tz < (tn : Int)) ∧ (0 ≤ z ∧ z < (cn 1 : Int)))) (f_x : w x = .inr (6, [.ref (ad b), .ref (ad (x + 51)), .ref (ad (x + 52)), .ref (ad (x + 53)), .ref (ad (x + 67)), .ref (ad (x + 68))])) (f_L : w b = .inr (4, [.ref (ad (b + 1)), .ref (ad (b + 5)), .ref (ad (b + 9)), .ref (ad (b + 12)), .ref (ad (b + 13)), .int (iI ((tn : Nat) : Int)), .int (iI ((ra : Nat) : Int)), .int (iI ((rb : Nat) : Int)), .int (iI ((stp : Nat) : Int))])) (f_ts : w (b + 12) = aR G 3 4 (fun k => some (ad (b + 14 + 9 * k)))) (f_cn : ∀ k, k < 2 → w (b + 1 + 4 * k) = .inr (1, [.int (iI ((cn k : Nat) : Int)), .ref (ad (b + 1 + 4 * k + 1)), .ref (ad (b + 1 + 4 * k + 2)), .ref (ad (b + 1 + 4 * k + 3))])) : Met l yX6_wanted wsX6_wanted ({ frames := 4, cells := 0, slots := 0, locals := 96 }) (va_Pc [.ref (ad x), .int (iI tz), .int (iI z)] (nB G N ad w sz)) (nRd (.int (iI (-1)))) 0 0 (fun _ => False) := by
  refine n_ent (cc := cX6_wanted) (maxL := 4) (ret := (some .int)) (by decide) rfl (Nat.le_of_ble_eq_true rfl) ?_
  intro p e s m below meth cd hx hb hr hml hlocks hts hown hnm hsz hP hK hI Q hQ ls hl
  have hown : s.vm.findClass RX6 = some m.cls := hown
  have hl : lv_has ls 4 [(0, .ref (ad x)), (1, .int (iI tz)), (2, .int (iI z))] := hl
  refine lv_aload_n hx hb dX6_wanted_0 rfl (lv_at hl 0 rfl) ?_
  refine n_get hx hb hts u_X6 hown hK hP (by omega) f_x rfl 0 (by decide) (nT_m wf_X6_10) rfl dX6_wanted_1 ?_
  refine lv_iload_n hx hb dX6_wanted_4 rfl (lv_at hl 1 rfl) ?_
  by_cases ht9 : 0 ≤ tz ∧ tz < (tn : Int)
  · skip
    obtain ⟨t, rfl⟩ : ∃ t : Nat, tz = (t : Int) := ⟨(tz).toNat, by omega⟩
    have f_t := hT t (by omega)
    refine n_rdF (va_runV (As := [.int (iI ((t : Nat) : Int))]) (rest := []) ⟨hx, hb, hml, hown, hts⟩ (c_X4_tillAt_y _ _ _ _ _ t (by omega) (by omega) (by omega) f_L f_ts) (cwV 1 hts (nT_V wl_X6_137 wi_X4_tillAt ws_X4_tillAt wn_X4 wc_X4_tillAt) rfl rfl rfl (by decide +kernel) ⟨Nat.le_of_ble_eq_true rfl, Nat.le_of_ble_eq_true rfl⟩) (nB.preV hK hI hP (by omega) f_L rfl rfl) rfl rfl hl.1 rfl (lv_room (Nat.le_of_ble_eq_true rfl)) dX6_wanted_5 ⟨Nat.zero_le _, Nat.zero_le _⟩) ?_
    refine lv_astore_n (lv' := [(3, .ref (ad (b + 14 + 9 * t))), (0, .ref (ad x)), (1, .int (iI ((t : Nat) : Int))), (2, .int (iI z))]) hx hb dX6_wanted_8 rfl hl (by decide) rfl (fun ls hl => ?_)
    refine lv_aload_n hx hb dX6_wanted_9 rfl (lv_at hl 0 rfl) ?_
    refine lv_ifnull hx hb dX6_wanted_10 ?_
    refine lv_aload_n hx hb dX6_wanted_13 rfl (lv_at hl 1 rfl) ?_
    refine n_get hx hb hts u_X6 hown hK hP (by omega) f_x rfl 0 (by decide) (nT_m wf_X6_10) rfl dX6_wanted_14 ?_
    refine n_iconst hx hb dX6_wanted_17 ?_
    refine lv_iload_n hx hb dX6_wanted_18 rfl (lv_at hl 3 rfl) ?_
    refine n_rdF (va_runV (As := [.int (iI 1), .int (iI z)]) (rest := []) ⟨hx, hb, hml, hown, hts⟩ (c_X4_isCoin _ _ _ _ _ cn 1 z (by omega) hcn (by omega) (by omega) f_L f_cn) (cwV 2 hts (nT_V wl_X6_141 wi_X4_isCoin ws_X4_isCoin wn_X4 wc_X4_isCoin) rfl rfl rfl (by decide +kernel) ⟨Nat.le_of_ble_eq_true rfl, Nat.le_of_ble_eq_true rfl⟩) (nB.preV hK hI hP (by omega) f_L rfl rfl) rfl rfl hl.1 rfl (lv_room (Nat.le_of_ble_eq_true rfl)) dX6_wanted_19 ⟨Nat.zero_le _, Nat.zero_le _⟩) ?_
    refine n_if_neB (tgt := 29) hx hb dX6_wanted_22 (by decide) (fun hc22 => ?_) (fun hc22 => ?_)
    · skip
      exact absurd ⟨ht9, hc22.2⟩ hno
    · skip
      refine n_iconst hx hb dX6_wanted_25 ?_
      refine lv_goto (tgt := 38) hx hb dX6_wanted_26 (by decide) ?_
      exact n_iretR hQ hx hb hr hlocks rfl dX6_wanted_38
  · skip
    refine n_rdF (va_runV (As := [.int (iI tz)]) (rest := []) ⟨hx, hb, hml, hown, hts⟩ (c_X4_tillAt_n _ _ _ _ _ tz (by omega) (by omega) (by omega) (by omega) f_L) (cwV 1 hts (nT_V wl_X6_137 wi_X4_tillAt ws_X4_tillAt wn_X4 wc_X4_tillAt) rfl rfl rfl (by decide +kernel) ⟨Nat.le_of_ble_eq_true rfl, Nat.le_of_ble_eq_true rfl⟩) (nB.preV hK hI hP (by omega) f_L rfl rfl) rfl rfl hl.1 rfl (lv_room (Nat.le_of_ble_eq_true rfl)) dX6_wanted_5 ⟨Nat.zero_le _, Nat.zero_le _⟩) ?_
    refine lv_astore_nN (lv' := [(3, .null), (0, .ref (ad x)), (1, .int (iI tz)), (2, .int (iI z))]) hx hb dX6_wanted_8 rfl hl (by decide) rfl (fun ls hl => ?_)
    refine lv_aload_nN hx hb dX6_wanted_9 rfl (lv_at hl 0 rfl) ?_
    refine lv_ifnullN (tgt := 25) hx hb dX6_wanted_10 (by decide) ?_
    refine n_iconst hx hb dX6_wanted_25 ?_
    refine lv_goto (tgt := 38) hx hb dX6_wanted_26 (by decide) ?_
    exact n_iretR hQ hx hb hr hlocks rfl dX6_wanted_38
set_option maxHeartbeats 4000000 in
set_option maxRecDepth 100000 in
theorem c_X6_wanted_yes {l : Launch} {G : nG} {N : Nat} {ad : Nat → Nat} {w : Nat → va_E} {sz : Nat} (x b tn ra rb stp : Nat) (sa sc tk t : Nat) (cn : Nat → Nat) (vl : Nat → Nat → Nat) (fal : Nat → Nat) (lst : Nat → Int) (en kk : Nat) (pr sq co nu : Nat → Nat) (row : Nat → Int) (hN : x + 218 < N) (hxb : b = x + 1) (htn : tn ≤ 4) (ht : t < tn) (hcn : ∀ k, k < 2 → cn k ≤ 8) (hra : 1 ≤ ra ∧ ra ≤ 100) (hrb : 1 ≤ rb ∧ rb ≤ 100) (hvl : ∀ s1 q, vl s1 q ≤ 1000) (hval1 : ∀ k, k < cn 1 → 1 ≤ vl 1 k) (hfal : ∀ k, k < cn 1 → fal k < cn 1) (hsur : ∀ k, k < cn 1 → ∃ j, j < cn 1 ∧ fal j = k) (hlst : ∀ k, k < 2001 → -1 ≤ lst k ∧ lst k ≤ k) (hen : en ≤ 20) (hk : kk < cn 1) (hex : ∀ q, q < en → (1 ≤ pr q ∧ pr q ≤ 2000) ∧ (1 ≤ nu q ∧ nu q ≤ 50) ∧ sq q < 2 ∧ co q < cn (sq q)) (f_x : w x = .inr (6, [.ref (ad b), .ref (ad (x + 51)), .ref (ad (x + 52)), .ref (ad (x + 53)), .ref (ad (x + 67)), .ref (ad (x + 68))])) (f_L : w b = .inr (4, [.ref (ad (b + 1)), .ref (ad (b + 5)), .ref (ad (b + 9)), .ref (ad (b + 12)), .ref (ad (b + 13)), .int (iI ((tn : Nat) : Int)), .int (iI ((ra : Nat) : Int)), .int (iI ((rb : Nat) : Int)), .int (iI ((stp : Nat) : Int))])) (f_ts : w (b + 12) = aR G 3 4 (fun k => some (ad (b + 14 + 9 * k)))) (f_cn : ∀ k, k < 2 → w (b + 1 + 4 * k) = .inr (1, [.int (iI ((cn k : Nat) : Int)), .ref (ad (b + 1 + 4 * k + 1)), .ref (ad (b + 1 + 4 * k + 2)), .ref (ad (b + 1 + 4 * k + 3))])) (f_vs : ∀ k, k < 2 → w (b + 1 + 4 * k + 1) = aI G 8 (fun q => (vl k q : Int))) (f_t : w (b + 14 + 9 * t) = .inr (5, [.ref (ad ((b + 14 + 9 * t) + 1)), .ref (ad ((b + 14 + 9 * t) + 2)), .ref (ad ((b + 14 + 9 * t) + 3)), .ref (ad ((b + 14 + 9 * t) + 4)), .int (iI ((sa : Nat) : Int)), .long (jI ((sc : Nat) : Int)), .long (jI ((tk : Nat) : Int))])) (f_e : w ((b + 14 + 9 * t) + 4) = .inr (2, [.int (iI ((en : Nat) : Int)), .ref (ad (((b + 14 + 9 * t) + 4) + 1)), .ref (ad (((b + 14 + 9 * t) + 4) + 2)), .ref (ad (((b + 14 + 9 * t) + 4) + 3)), .ref (ad (((b + 14 + 9 * t) + 4) + 4))])) (f_ep : w (((b + 14 + 9 * t) + 4) + 1) = aI G 20 (fun q => (pr q : Int))) (f_es : w (((b + 14 + 9 * t) + 4) + 2) = aI G 20 (fun q => (sq q : Int))) (f_ec : w (((b + 14 + 9 * t) + 4) + 3) = aI G 20 (fun q => (co q : Int))) (f_en_ : w (((b + 14 + 9 * t) + 4) + 4) = aI G 20 (fun q => (nu q : Int))) (f_o2 : w (b + 5) = .inr (1, [.int (iI ((cn 1 : Nat) : Int)), .ref (ad ((b + 5) + 1)), .ref (ad ((b + 5) + 2)), .ref (ad ((b + 5) + 3))])) (f_v2 : w ((b + 5) + 1) = aI G 8 (fun q => (vl 1 q : Int))) (f_f2 : w ((b + 5) + 2) = aI G 8 (fun q => (fal q : Int))) (f_l2 : w ((b + 5) + 3) = aI G 2001 lst) (f_r : w (x + 67) = aI G 8 row) : Met l yX6_wanted wsX6_wanted ({ frames := 4, cells := 0, slots := 0, locals := 96 }) (va_Pc [.ref (ad x), .int (iI ((t : Nat) : Int)), .int (iI ((kk : Nat) : Int))] (nB G N ad w sz)) (nPi G N ad sz (fun r u => (∀ j, j ≠ (x + 67) → u j = w j) ∧ (r = if allB (fun q9 => okI lst (chI ra rb vl pr sq co nu q9)) en = true then (mlM (fun q9 => wfR (vl 1) fal lst (chI ra rb vl pr sq co nu q9).toNat (fun _ => 0) (cn 1) kk) (fun q9 => mlA sq co nu kk q9) en) else -1) ∧ (∃ R1, u (x + 67) = aI G 8 R1))) 0 0 (nA N ad sz) := by
  refine n_ent (cc := cX6_wanted) (maxL := 4) (ret := (some .int)) (by decide) rfl (Nat.le_of_ble_eq_true rfl) ?_
  intro p e s m below meth cd hx hb hr hml hlocks hts hown hnm hsz hP hK hI Q hQ ls hl
  have hown : s.vm.findClass RX6 = some m.cls := hown
  subst hsz
  have hJ := hI.J s.heap.size
  have hS : va_S (nA N ad s.heap.size) s.heap s.heap [] := va_S.rf
  have hfr : ∀ j, j ≠ (x + 67) → w j = w j := fun _ _ => rfl
  have hl : lv_has ls 4 [(0, .ref (ad x)), (1, .int (iI ((t : Nat) : Int))), (2, .int (iI ((kk : Nat) : Int)))] := hl
  refine lv_aload_n hx hb dX6_wanted_0 rfl (lv_at hl 0 rfl) ?_
  refine n_get hx hb hts u_X6 hown hK hP (by omega) f_x rfl 0 (by decide) (nT_m wf_X6_10) rfl dX6_wanted_1 ?_
  refine lv_iload_n hx hb dX6_wanted_4 rfl (lv_at hl 1 rfl) ?_
  refine n_rdF (va_runV (As := [.int (iI ((t : Nat) : Int))]) (rest := []) ⟨hx, hb, hml, hown, hts⟩ (c_X4_tillAt_y _ _ _ _ _ t (by omega) (by omega) (by omega) f_L f_ts) (cwV 1 hts (nT_V wl_X6_137 wi_X4_tillAt ws_X4_tillAt wn_X4 wc_X4_tillAt) rfl rfl rfl (by decide +kernel) ⟨Nat.le_of_ble_eq_true rfl, Nat.le_of_ble_eq_true rfl⟩) (nB.preV hK hI hP (by omega) f_L rfl rfl) rfl rfl hl.1 rfl (lv_room (Nat.le_of_ble_eq_true rfl)) dX6_wanted_5 ⟨Nat.zero_le _, Nat.zero_le _⟩) ?_
  refine lv_astore_n (lv' := [(3, .ref (ad (b + 14 + 9 * t))), (0, .ref (ad x)), (1, .int (iI ((t : Nat) : Int))), (2, .int (iI ((kk : Nat) : Int)))]) hx hb dX6_wanted_8 rfl hl (by decide) rfl (fun ls hl => ?_)
  refine lv_aload_n hx hb dX6_wanted_9 rfl (lv_at hl 0 rfl) ?_
  refine lv_ifnull hx hb dX6_wanted_10 ?_
  have hk2 : ((kk : Nat) : Int) < (cn (1 : Int).toNat : Int) := by show ((kk : Nat) : Int) < (cn 1 : Int); omega
  have hc1 := hcn 1 (by omega)
  refine lv_aload_n hx hb dX6_wanted_13 rfl (lv_at hl 1 rfl) ?_
  refine n_get hx hb hts u_X6 hown hK hP (by omega) f_x rfl 0 (by decide) (nT_m wf_X6_10) rfl dX6_wanted_14 ?_
  refine n_iconst hx hb dX6_wanted_17 ?_
  refine lv_iload_n hx hb dX6_wanted_18 rfl (lv_at hl 3 rfl) ?_
  refine n_rdF (va_runV (As := [.int (iI 1), .int (iI ((kk : Nat) : Int))]) (rest := []) ⟨hx, hb, hml, hown, hts⟩ (c_X4_isCoin _ _ _ _ _ cn 1 ((kk : Nat) : Int) (by omega) hcn (by omega) (by omega) f_L f_cn) (cwV 2 hts (nT_V wl_X6_141 wi_X4_isCoin ws_X4_isCoin wn_X4 wc_X4_isCoin) rfl rfl rfl (by decide +kernel) ⟨Nat.le_of_ble_eq_true rfl, Nat.le_of_ble_eq_true rfl⟩) (nB.preV hK hI hP (by omega) f_L rfl rfl) rfl rfl hl.1 rfl (lv_room (Nat.le_of_ble_eq_true rfl)) dX6_wanted_19 ⟨Nat.zero_le _, Nat.zero_le _⟩) ?_
  refine n_if_neB (tgt := 29) hx hb dX6_wanted_22 (by decide) (fun hc22 => ?_) (fun hc22 => ?_)
  · skip
    refine lv_aload_n hx hb dX6_wanted_29 rfl (lv_at hl 1 rfl) ?_
    refine lv_aload_n hx hb dX6_wanted_30 rfl (lv_at hl 0 rfl) ?_
    refine n_get hx hb hts u_X5 hown hK hP (by omega) f_t rfl 3 (by decide) (nT_m wf_X6_202) rfl dX6_wanted_31 ?_
    refine lv_iload_n hx hb dX6_wanted_34 rfl (lv_at hl 3 rfl) ?_
    refine n_cI (va_runV (As := [.ref (ad ((b + 14 + 9 * t) + 4)), .int (iI ((kk : Nat) : Int))]) (rest := []) ⟨hx, hb, hml, hown, hts⟩ (c_X6_mostLacking x b tn ra rb stp cn vl fal lst ((b + 14 + 9 * t) + 4) en kk pr sq co nu row hN hxb hcn hra hrb hvl hval1 hfal hsur hlst (by omega) hen hk hex f_x f_L f_cn f_vs f_e f_ep f_es f_ec f_en_ f_o2 f_v2 f_f2 f_l2 f_r) (cwV 2 hts (nT_V wl_X6_214 wi_X6_mostLacking ws_X6_mostLacking wn_X6 wc_X6_mostLacking) rfl rfl rfl (by decide +kernel) ⟨Nat.le_of_ble_eq_true rfl, Nat.le_of_ble_eq_true rfl⟩) (nB.preV hK hI hP (by omega) f_x rfl rfl) rfl rfl hl.1 rfl (lv_room (Nat.le_of_ble_eq_true rfl)) dX6_wanted_35 ⟨Nat.zero_le _, Nat.zero_le _⟩) hS (fun r2 w1 H locs hq3 hP hS => ?_)
    obtain ⟨hne4, hr9, R1, hp9⟩ := hq3
    have f_x := (hne4 x (by omega)).trans f_x
    have f_L := (hne4 b (by omega)).trans f_L
    have f_ts := (hne4 (b + 12) (by omega)).trans f_ts
    have f_cn : ∀ k, k < 2 → w1 (b + 1 + 4 * k) = .inr (1, [.int (iI ((cn k : Nat) : Int)), .ref (ad (b + 1 + 4 * k + 1)), .ref (ad (b + 1 + 4 * k + 2)), .ref (ad (b + 1 + 4 * k + 3))]) := fun k hk9 => (hne4 _ (by omega)).trans (f_cn _ hk9)
    have f_vs : ∀ k, k < 2 → w1 (b + 1 + 4 * k + 1) = aI G 8 (fun q => (vl k q : Int)) := fun k hk9 => (hne4 _ (by omega)).trans (f_vs _ hk9)
    have f_t := (hne4 (b + 14 + 9 * t) (by omega)).trans f_t
    have f_e := (hne4 ((b + 14 + 9 * t) + 4) (by omega)).trans f_e
    have f_ep := (hne4 (((b + 14 + 9 * t) + 4) + 1) (by omega)).trans f_ep
    have f_es := (hne4 (((b + 14 + 9 * t) + 4) + 2) (by omega)).trans f_es
    have f_ec := (hne4 (((b + 14 + 9 * t) + 4) + 3) (by omega)).trans f_ec
    have f_en_ := (hne4 (((b + 14 + 9 * t) + 4) + 4) (by omega)).trans f_en_
    have f_o2 := (hne4 (b + 5) (by omega)).trans f_o2
    have f_v2 := (hne4 ((b + 5) + 1) (by omega)).trans f_v2
    have f_f2 := (hne4 ((b + 5) + 2) (by omega)).trans f_f2
    have f_l2 := (hne4 ((b + 5) + 3) (by omega)).trans f_l2
    have f_r : w1 (x + 67) = aI G 8 R1 := hp9
    have hfr : ∀ j, j ≠ (x + 67) → w1 j = w j := fun j a0 => (hne4 j (by omega)).trans (hfr j a0)
    refine n_iretP hQ hx hb hr hlocks hP hS dX6_wanted_38 ?_
    exact ⟨hfr, hr9, ⟨_, f_r⟩⟩
  · skip
    exact absurd ⟨by omega, by omega, hk2⟩ hc22
