
theorem insF_sur {fal : Nat → Nat} {n q : Nat} (hq : q ≤ n) (h : ∀ k, k < n → ∃ j, j < n ∧ fal j = k) : ∀ k, k < n + 1 → ∃ j, j < n + 1 ∧ insF fal n q j = k := by
  intro k hk
  by_cases e : k = n
  · exact ⟨q, by omega, by unfold insF; rw [if_pos rfl, e]⟩
  · obtain ⟨j, h1, h2⟩ := h k (by omega)
    by_cases hj : j < q
    · exact ⟨j, by omega, by unfold insF; rw [if_neg (by omega), if_neg (by omega)]; exact h2⟩
    · exact ⟨j + 1, by omega, by unfold insF; rw [if_neg (by omega), if_pos (by omega)]; exact h2⟩
theorem srt_sur (val b0 : Nat → Nat) : ∀ n k, k < n → ∃ j, j < n ∧ srt val b0 n j = k
  | 0, k, h => absurd h (Nat.not_lt_zero _)
  | n + 1, k, h => insF_sur (insP_le val (srt val b0 n) (val n) n) (srt_sur val b0 n) k h
theorem wrM_at {tb : Nat → Nat → Int} {val fal lim : Nat → Nat} {cnt sm : Nat} {rz : Nat → Nat} {k : Nat} : ∀ n, (∃ j, j < n ∧ fal j = k) → wrM tb val fal lim cnt sm rz n k ≤ lim k
  | 0, h => by
    obtain ⟨j, hj, -⟩ := h
    exact absurd hj (Nat.not_lt_zero _)
  | n + 1, h => by
    show va_up (wrM tb val fal lim cnt sm rz n) (fal n) (wrN tb val fal lim cnt (wrL tb val fal lim cnt sm n) n) k ≤ lim k
    by_cases e : k = fal n
    · rw [e, va_up_self]
      exact Nat.le_trans (dn_le _ _) (Nat.min_le_left _ _)
    · rw [va_up_ne _ _ e]
      obtain ⟨j, hj, hk⟩ := h
      refine wrM_at n ⟨j, ?_, hk⟩
      rcases Nat.lt_or_ge j n with c | c
      · exact c
      · exact absurd (show k = fal n by rw [← hk, show j = n by omega]) e
def bnF (bd H : Nat → Nat) (b q : Nat) : Nat → Nat := fun k => if k < q then H (b + k) else bd k
theorem bnF_0 (bd H : Nat → Nat) (b : Nat) : bnF bd H b 0 = bd := by
  funext k
  unfold bnF
  rw [if_neg (Nat.not_lt_zero k)]
theorem bnF_s (bd H : Nat → Nat) (b q : Nat) (z : Int) (hz : z = ((H (b + q) : Nat) : Int)) : va_up (fun k => ((bnF bd H b q k : Nat) : Int)) q z = fun k => ((bnF bd H b (q + 1) k : Nat) : Int) := by
  funext k
  unfold va_up bnF
  by_cases e : k = q
  · rw [if_pos e, if_pos (by omega), e, hz]
  · rw [if_neg e]
    dsimp only
    by_cases h : k < q
    · rw [if_pos h, if_pos (by omega)]
    · rw [if_neg h, if_neg (by omega)]
def sbS (H g : Nat → Nat) (b q : Nat) : Nat → Nat := fun k => if b ≤ k ∧ k < b + q then H k - g (k - b) else H k
theorem sbS_0 (H g : Nat → Nat) (b : Nat) : sbS H g b 0 = H := by
  funext k
  unfold sbS
  rw [if_neg (by omega)]
theorem sbS_s (H g : Nat → Nat) (b q : Nat) (z : Int) (hz : z = ((sbS H g b q (b + q) : Nat) : Int) - ((g q : Nat) : Int)) (hg : g q ≤ H (b + q)) : va_up (fun k => ((sbS H g b q k : Nat) : Int)) (b + q) z = fun k => ((sbS H g b (q + 1) k : Nat) : Int) := by
  have e0 : sbS H g b q (b + q) = H (b + q) := if_neg (by omega)
  rw [e0] at hz
  funext k
  unfold va_up
  by_cases e : k = b + q
  · rw [if_pos e, e, hz]
    unfold sbS
    rw [if_pos (by omega), show b + q - b = q by omega]
    omega
  · rw [if_neg e]
    unfold sbS
    dsimp only
    by_cases h : b ≤ k ∧ k < b + q
    · rw [if_pos h, if_pos (by omega)]
    · rw [if_neg h, if_neg (by omega)]
def cpS (F g : Nat → Nat) (b q : Nat) : Nat → Nat := fun k => if b ≤ k ∧ k < b + q then g (k - b) else F k
theorem cpS_0 (F g : Nat → Nat) (b : Nat) : cpS F g b 0 = F := by
  funext k
  unfold cpS
  rw [if_neg (by omega)]
theorem cpS_s (F g : Nat → Nat) (b q : Nat) (z : Int) (hz : z = ((g q : Nat) : Int)) : va_up (fun k => ((cpS F g b q k : Nat) : Int)) (b + q) z = fun k => ((cpS F g b (q + 1) k : Nat) : Int) := by
  funext k
  unfold va_up cpS
  by_cases e : k = b + q
  · rw [if_pos e, if_pos (by omega), e, hz, show b + q - b = q by omega]
  · rw [if_neg e]
    dsimp only
    by_cases h : b ≤ k ∧ k < b + q
    · rw [if_pos h, if_pos (by omega)]
    · rw [if_neg h, if_neg (by omega)]
def gvF (n : Nat) (tk : Nat → Nat) : Nat → Nat := fun k => if k < n then tk k else 0
/-- find, without bounds, is the least number of coins (lst) and gives the row tkq -/
def fwOK (val : Nat → Nat) (n : Nat) (lst : Nat → Int) (tkq : Nat → Nat → Int) : Prop := ∀ (B : Nat → Nat) (Fw : Nat → Int) (bd tk0 : Nat → Nat) (sm : Nat), sm ≤ 2000 → (∃ b9, B = srt val b9 n) → (∀ k, k < 8 → bd k = 2000) → fOK Fw val B bd n sm 0 → tbF Fw n n sm = lst sm ∧ (¬ lst sm = -1 → ∀ k, k < n → ((wrM (tbF Fw n) val B bd n sm tk0 n k : Nat) : Int) = tkq sm k)
theorem ml_rng {tk md : Nat → Int} : ∀ e : Nat, (∀ q, q < e → (0 ≤ tk q ∧ tk q ≤ 2000) ∧ 0 ≤ md q ∧ md q ≤ 50) → (-(2000 * (e : Int)) ≤ mlB tk md e ∧ mlB tk md e ≤ 50 * (e : Int)) ∧ 0 ≤ mlM tk md e ∧ mlM tk md e ≤ 2000 * (e : Int)
  | 0, _ => by
    show (-(2000 * (0 : Int)) ≤ 0 ∧ (0 : Int) ≤ 50 * 0) ∧ (0 : Int) ≤ 0 ∧ (0 : Int) ≤ 2000 * 0
    decide
  | e + 1, h => by
    have ih := ml_rng e (fun q hq => h q (by omega))
    have h1 := h e (by omega)
    have eB : mlB tk md (e + 1) = mlB tk md e + md e - tk e := rfl
    have eM : mlM tk md (e + 1) = max (mlM tk md e) (-(mlB tk md (e + 1))) := rfl
    omega
set_option maxHeartbeats 4000000 in
set_option maxRecDepth 100000 in
theorem c_X7_fewest_no {l : Launch} {G : nG} {N : Nat} {ad : Nat → Nat} {w : Nat → va_E} {sz : Nat} (y : Nat) (Co : Nat → Nat) (yz z kz : Int) (hN : y + 26 < N) (hCo : ∀ k, k < 2 → Co k ≤ 8) (hy : -2147483648 ≤ yz ∧ yz < 2147483648) (hz : -2147483648 ≤ z ∧ z < 2147483648) (hkz : -2147483648 ≤ kz ∧ kz < 2147483648) (hno : ¬ ((yz = 0 ∨ yz = 1) ∧ (0 ≤ z ∧ z ≤ 2000) ∧ (kz = -1 ∨ (0 ≤ kz ∧ kz < (Co yz.toNat : Int))))) (f_y : w y = .inr (7, [.int (iI 0), .ref (ad (y + 1)), .ref (ad (y + 2)), .ref (ad (y + 3)), .ref (ad (y + 4)), .ref (ad (y + 5)), .ref (ad (y + 6)), .ref (ad (y + 7)), .ref (ad (y + 8)), .ref (ad (y + 9)), .ref (ad (y + 10)), .ref (ad (y + 11)), .ref (ad (y + 12)), .ref (ad (y + 13)), .ref (ad (y + 14)), .ref (ad (y + 15)), .ref (ad (y + 16)), .ref (ad (y + 17)), .ref (ad (y + 18)), .ref (ad (y + 19)), .ref (ad (y + 20)), .ref (ad (y + 21)), .ref (ad (y + 22)), .ref (ad (y + 23)), .ref (ad (y + 24)), .ref (ad (y + 25)), .ref (ad (y + 26))])) (f_Co : w (y + 1) = aI G 8 (fun q => (Co q : Int))) : Met l yX7_fewest wsX7_fewest ({ frames := 2, cells := 0, slots := 0, locals := 53 }) (va_Pc [.ref (ad y), .int (iI yz), .int (iI z), .int (iI kz)] (nB G N ad w sz)) (nPi G N ad sz (fun r u => (∀ j, u j = w j) ∧ (r = -1))) 0 0 (nA N ad sz) := by
  refine n_ent (cc := cX7_fewest) (maxL := 5) (ret := (some .int)) (by decide) rfl (Nat.le_of_ble_eq_true rfl) ?_
  intro p e s m below meth cd hx hb hr hml hlocks hts hown hnm hsz hP hK hI Q hQ ls hl
  have hown : s.vm.findClass RX7 = some m.cls := hown
  subst hsz
  have hJ := hI.J s.heap.size
  have hS : va_S (nA N ad s.heap.size) s.heap s.heap [] := va_S.rf
  have hfr : ∀ j, w j = w j := fun _  => rfl
  have hl : lv_has ls 5 [(0, .ref (ad y)), (1, .int (iI yz)), (2, .int (iI z)), (3, .int (iI kz))] := hl
  refine lv_aload_n hx hb dX7_fewest_0 rfl (lv_at hl 0 rfl) ?_
  refine n_iconst hx hb dX7_fewest_1 ?_
  refine n_put hx hb hts u_X7 tyX7 tyX7_ok nmX7 hown hK hJ hP hS (by omega) f_y rfl 0 (by decide) (nT_m wf_X7_90) rfl rfl rfl (Nat.le_of_ble_eq_true rfl) dX7_fewest_2 (fun w1 H locs f9 hne9 hP hS => ?_)
  have ew9 : w = w1 := funext fun j9 => (Decidable.em (j9 = y)).elim (fun h9 => by rw [h9, f9]; exact f_y) (fun h9 => (hne9 j9 h9).symm)
  subst ew9
  refine lv_iload_n hx hb dX7_fewest_5 rfl (lv_at hl 1 rfl) ?_
  refine n_iconst hx hb dX7_fewest_6 ?_
  refine n_iconst hx hb dX7_fewest_7 ?_
  refine n_rdF (va_runS (As := [.int (iI yz), .int (iI 0), .int (iI 1)]) (rest := []) ⟨hx, hb, hml, hown, hts⟩ (c_X7_in yz 0 1 (by omega) (by omega) (by omega)) (va_cwS 3 hts (nT_S wl_X7_98 wt_X7_in wn_X7 wc_X7_in) rfl rfl rfl (by decide +kernel) ⟨Nat.le_of_ble_eq_true rfl, Nat.le_of_ble_eq_true rfl⟩) preEq rfl rfl hl.1 rfl (lv_room (Nat.le_of_ble_eq_true rfl)) dX7_fewest_8 ⟨Nat.zero_le _, Nat.zero_le _⟩) ?_
  refine n_if_eqB (tgt := 39) hx hb dX7_fewest_11 (by decide) (fun hc11 => ?_) (fun hc11 => ?_)
  · skip
    refine n_iconst hx hb dX7_fewest_39 ?_
    refine n_iretP hQ hx hb hr hlocks hP hS dX7_fewest_40 ?_
    exact ⟨hfr, rfl⟩
  · skip
    refine lv_iload_n hx hb dX7_fewest_14 rfl (lv_at hl 2 rfl) ?_
    refine n_iconst hx hb dX7_fewest_15 ?_
    refine n_sipush hx hb dX7_fewest_16 (by decide) ?_
    refine n_rdF (va_runS (As := [.int (iI z), .int (iI 0), .int (iI 2000)]) (rest := []) ⟨hx, hb, hml, hown, hts⟩ (c_X7_in z 0 2000 (by omega) (by omega) (by omega)) (va_cwS 3 hts (nT_S wl_X7_98 wt_X7_in wn_X7 wc_X7_in) rfl rfl rfl (by decide +kernel) ⟨Nat.le_of_ble_eq_true rfl, Nat.le_of_ble_eq_true rfl⟩) preEq rfl rfl hl.1 rfl (lv_room (Nat.le_of_ble_eq_true rfl)) dX7_fewest_19 ⟨Nat.zero_le _, Nat.zero_le _⟩) ?_
    refine n_if_eqB (tgt := 39) hx hb dX7_fewest_22 (by decide) (fun hc22 => ?_) (fun hc22 => ?_)
    · skip
      refine n_iconst hx hb dX7_fewest_39 ?_
      refine n_iretP hQ hx hb hr hlocks hP hS dX7_fewest_40 ?_
      exact ⟨hfr, rfl⟩
    · skip
      refine lv_iload_n hx hb dX7_fewest_25 rfl (lv_at hl 3 rfl) ?_
      refine n_iconst hx hb dX7_fewest_26 ?_
      refine n_icmp_eq (tgt := 41) hx hb dX7_fewest_27 (by decide) (by omega) (by omega) (fun hc27 => ?_) (fun hc27 => ?_)
      · skip
        exact absurd ⟨by omega, hc22, Or.inl hc27⟩ hno
      · skip
        refine lv_aload_n hx hb dX7_fewest_30 rfl (lv_at hl 0 rfl) ?_
        refine lv_iload_n hx hb dX7_fewest_31 rfl (lv_at hl 1 rfl) ?_
        refine lv_iload_n hx hb dX7_fewest_32 rfl (lv_at hl 3 rfl) ?_
        refine n_rdF (va_runV (As := [.int (iI yz), .int (iI kz)]) (rest := []) ⟨hx, hb, hml, hown, hts⟩ (c_X7_isCoin _ Co yz kz (by omega) hCo (by omega) (by omega) f_y f_Co) (cwV 2 hts (nT_V wl_X7_121 wi_X7_isCoin ws_X7_isCoin wn_X7 wc_X7_isCoin) rfl rfl rfl (by decide +kernel) ⟨Nat.le_of_ble_eq_true rfl, Nat.le_of_ble_eq_true rfl⟩) (nB.preV hK hI hP (by omega) f_y rfl rfl) rfl rfl hl.1 rfl (lv_room (Nat.le_of_ble_eq_true rfl)) dX7_fewest_33 ⟨Nat.zero_le _, Nat.zero_le _⟩) ?_
        refine n_if_neB (tgt := 41) hx hb dX7_fewest_36 (by decide) (fun hc36 => ?_) (fun hc36 => ?_)
        · skip
          exact absurd ⟨hc36.1, hc22, Or.inr hc36.2⟩ hno
        · skip
          refine n_iconst hx hb dX7_fewest_39 ?_
          refine n_iretP hQ hx hb hr hlocks hP hS dX7_fewest_40 ?_
          exact ⟨hfr, rfl⟩
set_option maxHeartbeats 4000000 in
set_option maxRecDepth 100000 in
theorem c_X7_fewest_cnt {l : Launch} {G : nG} {N : Nat} {ad : Nat → Nat} {w : Nat → va_E} {sz : Nat} (y : Nat) (Co Va : Nat → Nat) (sy sm : Nat) (b9 bd tk0 : Nat → Nat) (Fw0 : Nat → Int) (lst : Nat → Int) (tkq : Nat → Nat → Int) (hN : y + 26 < N) (hCo : ∀ k, k < 2 → Co k ≤ 8) (hVa : ∀ k, k < 16 → Va k ≤ 1000) (hs : sy < 2) (hsm : sm ≤ 2000) (hV1 : ∀ k, k < Co sy → 1 ≤ Va (8 * sy + k)) (hfw : fwOK (fun q9 => Va (8 * sy + q9)) (Co sy) lst tkq) (f_y : w y = .inr (7, [.int (iI 0), .ref (ad (y + 1)), .ref (ad (y + 2)), .ref (ad (y + 3)), .ref (ad (y + 4)), .ref (ad (y + 5)), .ref (ad (y + 6)), .ref (ad (y + 7)), .ref (ad (y + 8)), .ref (ad (y + 9)), .ref (ad (y + 10)), .ref (ad (y + 11)), .ref (ad (y + 12)), .ref (ad (y + 13)), .ref (ad (y + 14)), .ref (ad (y + 15)), .ref (ad (y + 16)), .ref (ad (y + 17)), .ref (ad (y + 18)), .ref (ad (y + 19)), .ref (ad (y + 20)), .ref (ad (y + 21)), .ref (ad (y + 22)), .ref (ad (y + 23)), .ref (ad (y + 24)), .ref (ad (y + 25)), .ref (ad (y + 26))])) (f_Co : w (y + 1) = aI G 8 (fun q => (Co q : Int))) (f_Va : w (y + 2) = aI G 64 (fun q => (Va q : Int))) (f_by : w (y + 19) = aI G 8 (fun q => (b9 q : Int))) (f_fw : w (y + 20) = aI G 18009 Fw0) (f_tk : w (y + 21) = aI G 8 (fun q => (tk0 q : Int))) (f_bd : w (y + 22) = aI G 8 (fun q => (bd q : Int))) : Met l yX7_fewest wsX7_fewest ({ frames := 2, cells := 0, slots := 0, locals := 53 }) (va_Pc [.ref (ad y), .int (iI ((sy : Nat) : Int)), .int (iI ((sm : Nat) : Int)), .int (iI (-1))] (nB G N ad w sz)) (nPi G N ad sz (fun r u => (∀ j, j ≠ (y + 19) → j ≠ (y + 20) → j ≠ (y + 21) → j ≠ (y + 22) → u j = w j) ∧ (r = lst sm) ∧ (∃ B1 : Nat → Nat, u (y + 19) = aI G 8 (fun q => (B1 q : Int))) ∧ (∃ F1 : Nat → Int, u (y + 20) = aI G 18009 F1) ∧ (∃ T1 : Nat → Nat, u (y + 21) = aI G 8 (fun q => (T1 q : Int))) ∧ (∃ D1 : Nat → Nat, u (y + 22) = aI G 8 (fun q => (D1 q : Int))))) 0 0 (nA N ad sz) := by
  refine n_ent (cc := cX7_fewest) (maxL := 5) (ret := (some .int)) (by decide) rfl (Nat.le_of_ble_eq_true rfl) ?_
  intro p e s m below meth cd hx hb hr hml hlocks hts hown hnm hsz hP hK hI Q hQ ls hl
  have hown : s.vm.findClass RX7 = some m.cls := hown
  subst hsz
  have hJ := hI.J s.heap.size
  have hS : va_S (nA N ad s.heap.size) s.heap s.heap [] := va_S.rf
  have hfr : ∀ j, j ≠ (y + 19) → j ≠ (y + 20) → j ≠ (y + 21) → j ≠ (y + 22) → w j = w j := fun _ _ _ _ _ => rfl
  have hl : lv_has ls 5 [(0, .ref (ad y)), (1, .int (iI ((sy : Nat) : Int))), (2, .int (iI ((sm : Nat) : Int))), (3, .int (iI (-1)))] := hl
  have hcs := hCo sy hs
  refine lv_aload_n hx hb dX7_fewest_0 rfl (lv_at hl 0 rfl) ?_
  refine n_iconst hx hb dX7_fewest_1 ?_
  refine n_put hx hb hts u_X7 tyX7 tyX7_ok nmX7 hown hK hJ hP hS (by omega) f_y rfl 0 (by decide) (nT_m wf_X7_90) rfl rfl rfl (Nat.le_of_ble_eq_true rfl) dX7_fewest_2 (fun w1 H locs f9 hne9 hP hS => ?_)
  have ew9 : w = w1 := funext fun j9 => (Decidable.em (j9 = y)).elim (fun h9 => by rw [h9, f9]; exact f_y) (fun h9 => (hne9 j9 h9).symm)
  subst ew9
  refine lv_iload_n hx hb dX7_fewest_5 rfl (lv_at hl 1 rfl) ?_
  refine n_iconst hx hb dX7_fewest_6 ?_
  refine n_iconst hx hb dX7_fewest_7 ?_
  refine n_rdF (va_runS (As := [.int (iI ((sy : Nat) : Int)), .int (iI 0), .int (iI 1)]) (rest := []) ⟨hx, hb, hml, hown, hts⟩ (c_X7_in ((sy : Nat) : Int) 0 1 (by omega) (by omega) (by omega)) (va_cwS 3 hts (nT_S wl_X7_98 wt_X7_in wn_X7 wc_X7_in) rfl rfl rfl (by decide +kernel) ⟨Nat.le_of_ble_eq_true rfl, Nat.le_of_ble_eq_true rfl⟩) preEq rfl rfl hl.1 rfl (lv_room (Nat.le_of_ble_eq_true rfl)) dX7_fewest_8 ⟨Nat.zero_le _, Nat.zero_le _⟩) ?_
  refine n_if_eqB (tgt := 39) hx hb dX7_fewest_11 (by decide) (fun hc11 => ?_) (fun hc11 => ?_)
  · skip
    exact absurd hc11 (by omega)
  · skip
    refine lv_iload_n hx hb dX7_fewest_14 rfl (lv_at hl 2 rfl) ?_
    refine n_iconst hx hb dX7_fewest_15 ?_
    refine n_sipush hx hb dX7_fewest_16 (by decide) ?_
    refine n_rdF (va_runS (As := [.int (iI ((sm : Nat) : Int)), .int (iI 0), .int (iI 2000)]) (rest := []) ⟨hx, hb, hml, hown, hts⟩ (c_X7_in ((sm : Nat) : Int) 0 2000 (by omega) (by omega) (by omega)) (va_cwS 3 hts (nT_S wl_X7_98 wt_X7_in wn_X7 wc_X7_in) rfl rfl rfl (by decide +kernel) ⟨Nat.le_of_ble_eq_true rfl, Nat.le_of_ble_eq_true rfl⟩) preEq rfl rfl hl.1 rfl (lv_room (Nat.le_of_ble_eq_true rfl)) dX7_fewest_19 ⟨Nat.zero_le _, Nat.zero_le _⟩) ?_
    refine n_if_eqB (tgt := 39) hx hb dX7_fewest_22 (by decide) (fun hc22 => ?_) (fun hc22 => ?_)
    · skip
      exact absurd hc22 (by omega)
    · skip
      refine lv_iload_n hx hb dX7_fewest_25 rfl (lv_at hl 3 rfl) ?_
      refine n_iconst hx hb dX7_fewest_26 ?_
      refine n_icmp_eq (tgt := 41) hx hb dX7_fewest_27 (by decide) (by omega) (by omega) (fun hc27 => ?_) (fun hc27 => ?_)
      · skip
        refine lv_aload_n hx hb dX7_fewest_41 rfl (lv_at hl 0 rfl) ?_
        obtain ⟨bd1, hbd1⟩ : ∃ z9 : Nat → Nat, z9 = nbF bd 8 := ⟨_, rfl⟩
        refine n_cV (va_runV (As := []) (rest := []) ⟨hx, hb, hml, hown, hts⟩ (c_X7_noBounds y bd (by omega) f_y f_bd) (cwV 0 hts (nT_V wl_X7_125 wi_X7_noBounds ws_X7_noBounds wn_X7 wc_X7_noBounds) rfl rfl rfl (by decide +kernel) ⟨Nat.le_of_ble_eq_true rfl, Nat.le_of_ble_eq_true rfl⟩) (nB.preV hK hI hP (by omega) f_y rfl rfl) rfl rfl hl.1 rfl (lv_room (Nat.le_of_ble_eq_true rfl)) dX7_fewest_42 ⟨Nat.zero_le _, Nat.zero_le _⟩) hS (fun w3 H locs hq5 hP hS => ?_)
        obtain ⟨hne6, hp_bd⟩ := hq5
        have f_y := (hne6 y (by omega)).trans f_y
        have f_Co := (hne6 (y + 1) (by omega)).trans f_Co
        have f_Va := (hne6 (y + 2) (by omega)).trans f_Va
        have f_by := (hne6 (y + 19) (by omega)).trans f_by
        have f_fw := (hne6 (y + 20) (by omega)).trans f_fw
        have f_tk := (hne6 (y + 21) (by omega)).trans f_tk
        have f_bd : w3 (y + 22) = aI G 8 (fun q => (bd1 q : Int)) := (by rw [hbd1]; exact hp_bd)
        have hfr : ∀ j, j ≠ (y + 19) → j ≠ (y + 20) → j ≠ (y + 21) → j ≠ (y + 22) → w3 j = w j := fun j a0 a1 a2 a3 => (hne6 j (by omega)).trans (hfr j a0 a1 a2 a3)
        have hb2 : ∀ k, k < 8 → bd1 k = 2000 := fun k hk9 => by rw [hbd1]; exact if_pos hk9
        have hbd : ∀ k, k < 8 → bd1 k ≤ 2000 := fun k hk9 => by rw [hb2 k hk9]; exact Nat.le_refl _
        refine lv_aload_n hx hb dX7_fewest_45 rfl (lv_at hl 0 rfl) ?_
        refine lv_iload_n hx hb dX7_fewest_46 rfl (lv_at hl 1 rfl) ?_
        refine lv_iload_n hx hb dX7_fewest_47 rfl (lv_at hl 2 rfl) ?_
        refine n_cI (va_runV (As := [.int (iI ((sy : Nat) : Int)), .int (iI ((sm : Nat) : Int))]) (rest := []) ⟨hx, hb, hml, hown, hts⟩ (c_X7_find y Co Va sy sm b9 bd1 tk0 Fw0 (by omega) hCo hVa (by omega) (by omega) hV1 hbd f_y f_Co f_Va f_by f_fw f_tk f_bd) (cwV 2 hts (nT_V wl_X7_128 wi_X7_find ws_X7_find wn_X7 wc_X7_find) rfl rfl rfl (by decide +kernel) ⟨Nat.le_of_ble_eq_true rfl, Nat.le_of_ble_eq_true rfl⟩) (nB.preV hK hI hP (by omega) f_y rfl rfl) rfl rfl hl.1 rfl (lv_room (Nat.le_of_ble_eq_true rfl)) dX7_fewest_48 ⟨Nat.zero_le _, Nat.zero_le _⟩) hS (fun r8 w7 H locs hq9 hP hS => ?_)
        obtain ⟨hne10, B, Fw, tk1, hBe, hF, hre, htk, hp_by, hp_fw, hp_tk⟩ := hq9
        have f_y := (hne10 y (by omega) (by omega) (by omega)).trans f_y
        have f_Co := (hne10 (y + 1) (by omega) (by omega) (by omega)).trans f_Co
        have f_Va := (hne10 (y + 2) (by omega) (by omega) (by omega)).trans f_Va
        have f_bd := (hne10 (y + 22) (by omega) (by omega) (by omega)).trans f_bd
        have f_by : w7 (y + 19) = aI G 8 (fun q => (B q : Int)) := hp_by
        have f_fw : w7 (y + 20) = aI G 18009 Fw := hp_fw
        have f_tk : w7 (y + 21) = aI G 8 (fun q => (tk1 q : Int)) := hp_tk
        have hfr : ∀ j, j ≠ (y + 19) → j ≠ (y + 20) → j ≠ (y + 21) → j ≠ (y + 22) → w7 j = w j := fun j a0 a1 a2 a3 => (hne10 j (by omega) (by omega) (by omega)).trans (hfr j a0 a1 a2 a3)
        have hq9 := hfw B Fw bd1 tk0 sm (by omega) ⟨_, hBe⟩ hb2 hF
        have hre2 : r8 = lst sm := hre.trans hq9.1
        have hlr := (hF.2.2 0 (Nat.zero_le _) (Nat.zero_le _) sm (by omega))
        rw [Nat.mul_zero, Nat.zero_add] at hlr
        have htp := tbF_top Fw (Co sy) sm
        have hlr2 : -1 ≤ r8 ∧ r8 ≤ 2000 := by rw [hre, htp]; unfold dE; split <;> omega
        refine lv_istore (lv' := [(4, .int (iI r8)), (0, .ref (ad y)), (1, .int (iI ((sy : Nat) : Int))), (2, .int (iI ((sm : Nat) : Int))), (3, .int (iI (-1)))]) hx hb dX7_fewest_51 hl (by decide) rfl (fun ls hl => ?_)
        refine lv_iload hx hb dX7_fewest_53 (lv_at hl 0 rfl) ?_
        refine n_iconst hx hb dX7_fewest_55 ?_
        refine n_icmp_eq (tgt := 64) hx hb dX7_fewest_56 (by decide) (by omega) (by omega) (fun hc56 => ?_) (fun hc56 => ?_)
        · skip
          refine lv_iload hx hb dX7_fewest_64 (lv_at hl 0 rfl) ?_
          refine lv_goto (tgt := 75) hx hb dX7_fewest_66 (by decide) ?_
          refine n_iretP hQ hx hb hr hlocks hP hS dX7_fewest_75 ?_
          exact ⟨hfr, hre2, ⟨_, f_by⟩, ⟨_, f_fw⟩, ⟨_, f_tk⟩, ⟨_, f_bd⟩⟩
        · skip
          refine lv_iload_n hx hb dX7_fewest_59 rfl (lv_at hl 4 rfl) ?_
          refine n_iconst hx hb dX7_fewest_60 ?_
          refine n_icmp_ne (tgt := 69) hx hb dX7_fewest_61 (by decide) (by omega) (by omega) (fun hc61 => ?_) (fun hc61 => ?_)
          · skip
            exact absurd hc61 (by omega)
          · skip
            refine lv_iload hx hb dX7_fewest_64 (lv_at hl 0 rfl) ?_
            refine lv_goto (tgt := 75) hx hb dX7_fewest_66 (by decide) ?_
            refine n_iretP hQ hx hb hr hlocks hP hS dX7_fewest_75 ?_
            exact ⟨hfr, hre2, ⟨_, f_by⟩, ⟨_, f_fw⟩, ⟨_, f_tk⟩, ⟨_, f_bd⟩⟩
      · skip
        exact absurd hc27 (by omega)
set_option maxHeartbeats 4000000 in
set_option maxRecDepth 100000 in
theorem c_X7_fewest_row {l : Launch} {G : nG} {N : Nat} {ad : Nat → Nat} {w : Nat → va_E} {sz : Nat} (y : Nat) (Co Va : Nat → Nat) (sy sm kk : Nat) (b9 bd tk0 : Nat → Nat) (Fw0 : Nat → Int) (lst : Nat → Int) (tkq : Nat → Nat → Int) (hN : y + 26 < N) (hCo : ∀ k, k < 2 → Co k ≤ 8) (hVa : ∀ k, k < 16 → Va k ≤ 1000) (hs : sy < 2) (hsm : sm ≤ 2000) (hk : kk < Co sy) (hV1 : ∀ k, k < Co sy → 1 ≤ Va (8 * sy + k)) (hfw : fwOK (fun q9 => Va (8 * sy + q9)) (Co sy) lst tkq) (f_y : w y = .inr (7, [.int (iI 0), .ref (ad (y + 1)), .ref (ad (y + 2)), .ref (ad (y + 3)), .ref (ad (y + 4)), .ref (ad (y + 5)), .ref (ad (y + 6)), .ref (ad (y + 7)), .ref (ad (y + 8)), .ref (ad (y + 9)), .ref (ad (y + 10)), .ref (ad (y + 11)), .ref (ad (y + 12)), .ref (ad (y + 13)), .ref (ad (y + 14)), .ref (ad (y + 15)), .ref (ad (y + 16)), .ref (ad (y + 17)), .ref (ad (y + 18)), .ref (ad (y + 19)), .ref (ad (y + 20)), .ref (ad (y + 21)), .ref (ad (y + 22)), .ref (ad (y + 23)), .ref (ad (y + 24)), .ref (ad (y + 25)), .ref (ad (y + 26))])) (f_Co : w (y + 1) = aI G 8 (fun q => (Co q : Int))) (f_Va : w (y + 2) = aI G 64 (fun q => (Va q : Int))) (f_by : w (y + 19) = aI G 8 (fun q => (b9 q : Int))) (f_fw : w (y + 20) = aI G 18009 Fw0) (f_tk : w (y + 21) = aI G 8 (fun q => (tk0 q : Int))) (f_bd : w (y + 22) = aI G 8 (fun q => (bd q : Int))) : Met l yX7_fewest wsX7_fewest ({ frames := 2, cells := 0, slots := 0, locals := 53 }) (va_Pc [.ref (ad y), .int (iI ((sy : Nat) : Int)), .int (iI ((sm : Nat) : Int)), .int (iI ((kk : Nat) : Int))] (nB G N ad w sz)) (nPi G N ad sz (fun r u => (∀ j, j ≠ (y + 19) → j ≠ (y + 20) → j ≠ (y + 21) → j ≠ (y + 22) → u j = w j) ∧ (r = if lst sm = -1 then -1 else tkq sm kk) ∧ (∃ B1 : Nat → Nat, u (y + 19) = aI G 8 (fun q => (B1 q : Int))) ∧ (∃ F1 : Nat → Int, u (y + 20) = aI G 18009 F1) ∧ (∃ T1 : Nat → Nat, u (y + 21) = aI G 8 (fun q => (T1 q : Int))) ∧ (∃ D1 : Nat → Nat, u (y + 22) = aI G 8 (fun q => (D1 q : Int))))) 0 0 (nA N ad sz) := by
  refine n_ent (cc := cX7_fewest) (maxL := 5) (ret := (some .int)) (by decide) rfl (Nat.le_of_ble_eq_true rfl) ?_
  intro p e s m below meth cd hx hb hr hml hlocks hts hown hnm hsz hP hK hI Q hQ ls hl
  have hown : s.vm.findClass RX7 = some m.cls := hown
  subst hsz
  have hJ := hI.J s.heap.size
  have hS : va_S (nA N ad s.heap.size) s.heap s.heap [] := va_S.rf
  have hfr : ∀ j, j ≠ (y + 19) → j ≠ (y + 20) → j ≠ (y + 21) → j ≠ (y + 22) → w j = w j := fun _ _ _ _ _ => rfl
  have hl : lv_has ls 5 [(0, .ref (ad y)), (1, .int (iI ((sy : Nat) : Int))), (2, .int (iI ((sm : Nat) : Int))), (3, .int (iI ((kk : Nat) : Int)))] := hl
  have hcs := hCo sy hs
  refine lv_aload_n hx hb dX7_fewest_0 rfl (lv_at hl 0 rfl) ?_
  refine n_iconst hx hb dX7_fewest_1 ?_
  refine n_put hx hb hts u_X7 tyX7 tyX7_ok nmX7 hown hK hJ hP hS (by omega) f_y rfl 0 (by decide) (nT_m wf_X7_90) rfl rfl rfl (Nat.le_of_ble_eq_true rfl) dX7_fewest_2 (fun w1 H locs f9 hne9 hP hS => ?_)
  have ew9 : w = w1 := funext fun j9 => (Decidable.em (j9 = y)).elim (fun h9 => by rw [h9, f9]; exact f_y) (fun h9 => (hne9 j9 h9).symm)
  subst ew9
  refine lv_iload_n hx hb dX7_fewest_5 rfl (lv_at hl 1 rfl) ?_
  refine n_iconst hx hb dX7_fewest_6 ?_
  refine n_iconst hx hb dX7_fewest_7 ?_
  refine n_rdF (va_runS (As := [.int (iI ((sy : Nat) : Int)), .int (iI 0), .int (iI 1)]) (rest := []) ⟨hx, hb, hml, hown, hts⟩ (c_X7_in ((sy : Nat) : Int) 0 1 (by omega) (by omega) (by omega)) (va_cwS 3 hts (nT_S wl_X7_98 wt_X7_in wn_X7 wc_X7_in) rfl rfl rfl (by decide +kernel) ⟨Nat.le_of_ble_eq_true rfl, Nat.le_of_ble_eq_true rfl⟩) preEq rfl rfl hl.1 rfl (lv_room (Nat.le_of_ble_eq_true rfl)) dX7_fewest_8 ⟨Nat.zero_le _, Nat.zero_le _⟩) ?_
  refine n_if_eqB (tgt := 39) hx hb dX7_fewest_11 (by decide) (fun hc11 => ?_) (fun hc11 => ?_)
  · skip
    exact absurd hc11 (by omega)
  · skip
    refine lv_iload_n hx hb dX7_fewest_14 rfl (lv_at hl 2 rfl) ?_
    refine n_iconst hx hb dX7_fewest_15 ?_
    refine n_sipush hx hb dX7_fewest_16 (by decide) ?_
    refine n_rdF (va_runS (As := [.int (iI ((sm : Nat) : Int)), .int (iI 0), .int (iI 2000)]) (rest := []) ⟨hx, hb, hml, hown, hts⟩ (c_X7_in ((sm : Nat) : Int) 0 2000 (by omega) (by omega) (by omega)) (va_cwS 3 hts (nT_S wl_X7_98 wt_X7_in wn_X7 wc_X7_in) rfl rfl rfl (by decide +kernel) ⟨Nat.le_of_ble_eq_true rfl, Nat.le_of_ble_eq_true rfl⟩) preEq rfl rfl hl.1 rfl (lv_room (Nat.le_of_ble_eq_true rfl)) dX7_fewest_19 ⟨Nat.zero_le _, Nat.zero_le _⟩) ?_
    refine n_if_eqB (tgt := 39) hx hb dX7_fewest_22 (by decide) (fun hc22 => ?_) (fun hc22 => ?_)
    · skip
      exact absurd hc22 (by omega)
    · skip
      refine lv_iload_n hx hb dX7_fewest_25 rfl (lv_at hl 3 rfl) ?_
      refine n_iconst hx hb dX7_fewest_26 ?_
      refine n_icmp_eq (tgt := 41) hx hb dX7_fewest_27 (by decide) (by omega) (by omega) (fun hc27 => ?_) (fun hc27 => ?_)
      · skip
        exact absurd hc27 (by omega)
      · skip
        refine lv_aload_n hx hb dX7_fewest_30 rfl (lv_at hl 0 rfl) ?_
        refine lv_iload_n hx hb dX7_fewest_31 rfl (lv_at hl 1 rfl) ?_
        refine lv_iload_n hx hb dX7_fewest_32 rfl (lv_at hl 3 rfl) ?_
        refine n_rdF (va_runV (As := [.int (iI ((sy : Nat) : Int)), .int (iI ((kk : Nat) : Int))]) (rest := []) ⟨hx, hb, hml, hown, hts⟩ (c_X7_isCoin _ Co ((sy : Nat) : Int) ((kk : Nat) : Int) (by omega) hCo (by omega) (by omega) f_y f_Co) (cwV 2 hts (nT_V wl_X7_121 wi_X7_isCoin ws_X7_isCoin wn_X7 wc_X7_isCoin) rfl rfl rfl (by decide +kernel) ⟨Nat.le_of_ble_eq_true rfl, Nat.le_of_ble_eq_true rfl⟩) (nB.preV hK hI hP (by omega) f_y rfl rfl) rfl rfl hl.1 rfl (lv_room (Nat.le_of_ble_eq_true rfl)) dX7_fewest_33 ⟨Nat.zero_le _, Nat.zero_le _⟩) ?_
        refine n_if_neB (tgt := 41) hx hb dX7_fewest_36 (by decide) (fun hc36 => ?_) (fun hc36 => ?_)
        · skip
          refine lv_aload_n hx hb dX7_fewest_41 rfl (lv_at hl 0 rfl) ?_
          obtain ⟨bd1, hbd1⟩ : ∃ z9 : Nat → Nat, z9 = nbF bd 8 := ⟨_, rfl⟩
          refine n_cV (va_runV (As := []) (rest := []) ⟨hx, hb, hml, hown, hts⟩ (c_X7_noBounds y bd (by omega) f_y f_bd) (cwV 0 hts (nT_V wl_X7_125 wi_X7_noBounds ws_X7_noBounds wn_X7 wc_X7_noBounds) rfl rfl rfl (by decide +kernel) ⟨Nat.le_of_ble_eq_true rfl, Nat.le_of_ble_eq_true rfl⟩) (nB.preV hK hI hP (by omega) f_y rfl rfl) rfl rfl hl.1 rfl (lv_room (Nat.le_of_ble_eq_true rfl)) dX7_fewest_42 ⟨Nat.zero_le _, Nat.zero_le _⟩) hS (fun w3 H locs hq5 hP hS => ?_)
          obtain ⟨hne6, hp_bd⟩ := hq5
          have f_y := (hne6 y (by omega)).trans f_y
          have f_Co := (hne6 (y + 1) (by omega)).trans f_Co
          have f_Va := (hne6 (y + 2) (by omega)).trans f_Va
          have f_by := (hne6 (y + 19) (by omega)).trans f_by
          have f_fw := (hne6 (y + 20) (by omega)).trans f_fw
          have f_tk := (hne6 (y + 21) (by omega)).trans f_tk
          have f_bd : w3 (y + 22) = aI G 8 (fun q => (bd1 q : Int)) := (by rw [hbd1]; exact hp_bd)
          have hfr : ∀ j, j ≠ (y + 19) → j ≠ (y + 20) → j ≠ (y + 21) → j ≠ (y + 22) → w3 j = w j := fun j a0 a1 a2 a3 => (hne6 j (by omega)).trans (hfr j a0 a1 a2 a3)
          have hb2 : ∀ k, k < 8 → bd1 k = 2000 := fun k hk9 => by rw [hbd1]; exact if_pos hk9
          have hbd : ∀ k, k < 8 → bd1 k ≤ 2000 := fun k hk9 => by rw [hb2 k hk9]; exact Nat.le_refl _
          refine lv_aload_n hx hb dX7_fewest_45 rfl (lv_at hl 0 rfl) ?_
          refine lv_iload_n hx hb dX7_fewest_46 rfl (lv_at hl 1 rfl) ?_
          refine lv_iload_n hx hb dX7_fewest_47 rfl (lv_at hl 2 rfl) ?_
          refine n_cI (va_runV (As := [.int (iI ((sy : Nat) : Int)), .int (iI ((sm : Nat) : Int))]) (rest := []) ⟨hx, hb, hml, hown, hts⟩ (c_X7_find y Co Va sy sm b9 bd1 tk0 Fw0 (by omega) hCo hVa (by omega) (by omega) hV1 hbd f_y f_Co f_Va f_by f_fw f_tk f_bd) (cwV 2 hts (nT_V wl_X7_128 wi_X7_find ws_X7_find wn_X7 wc_X7_find) rfl rfl rfl (by decide +kernel) ⟨Nat.le_of_ble_eq_true rfl, Nat.le_of_ble_eq_true rfl⟩) (nB.preV hK hI hP (by omega) f_y rfl rfl) rfl rfl hl.1 rfl (lv_room (Nat.le_of_ble_eq_true rfl)) dX7_fewest_48 ⟨Nat.zero_le _, Nat.zero_le _⟩) hS (fun r8 w7 H locs hq9 hP hS => ?_)
          obtain ⟨hne10, B, Fw, tk1, hBe, hF, hre, htk, hp_by, hp_fw, hp_tk⟩ := hq9
          have f_y := (hne10 y (by omega) (by omega) (by omega)).trans f_y
          have f_Co := (hne10 (y + 1) (by omega) (by omega) (by omega)).trans f_Co
          have f_Va := (hne10 (y + 2) (by omega) (by omega) (by omega)).trans f_Va
          have f_bd := (hne10 (y + 22) (by omega) (by omega) (by omega)).trans f_bd
          have f_by : w7 (y + 19) = aI G 8 (fun q => (B q : Int)) := hp_by
          have f_fw : w7 (y + 20) = aI G 18009 Fw := hp_fw
          have f_tk : w7 (y + 21) = aI G 8 (fun q => (tk1 q : Int)) := hp_tk
          have hfr : ∀ j, j ≠ (y + 19) → j ≠ (y + 20) → j ≠ (y + 21) → j ≠ (y + 22) → w7 j = w j := fun j a0 a1 a2 a3 => (hne10 j (by omega) (by omega) (by omega)).trans (hfr j a0 a1 a2 a3)
          have hq9 := hfw B Fw bd1 tk0 sm (by omega) ⟨_, hBe⟩ hb2 hF
          have hre2 : r8 = lst sm := hre.trans hq9.1
          have hlr := (hF.2.2 0 (Nat.zero_le _) (Nat.zero_le _) sm (by omega))
          rw [Nat.mul_zero, Nat.zero_add] at hlr
          have htp := tbF_top Fw (Co sy) sm
          have hlr2 : -1 ≤ r8 ∧ r8 ≤ 2000 := by rw [hre, htp]; unfold dE; split <;> omega
          refine lv_istore (lv' := [(4, .int (iI r8)), (0, .ref (ad y)), (1, .int (iI ((sy : Nat) : Int))), (2, .int (iI ((sm : Nat) : Int))), (3, .int (iI ((kk : Nat) : Int)))]) hx hb dX7_fewest_51 hl (by decide) rfl (fun ls hl => ?_)
          refine lv_iload hx hb dX7_fewest_53 (lv_at hl 0 rfl) ?_
          refine n_iconst hx hb dX7_fewest_55 ?_
          refine n_icmp_eq (tgt := 64) hx hb dX7_fewest_56 (by decide) (by omega) (by omega) (fun hc56 => ?_) (fun hc56 => ?_)
          · skip
            refine lv_iload hx hb dX7_fewest_64 (lv_at hl 0 rfl) ?_
            refine lv_goto (tgt := 75) hx hb dX7_fewest_66 (by decide) ?_
            refine n_iretP hQ hx hb hr hlocks hP hS dX7_fewest_75 ?_
            exact ⟨hfr, by rw [if_pos (by omega)]; omega, ⟨_, f_by⟩, ⟨_, f_fw⟩, ⟨_, f_tk⟩, ⟨_, f_bd⟩⟩
          · skip
            refine lv_iload_n hx hb dX7_fewest_59 rfl (lv_at hl 4 rfl) ?_
            refine n_iconst hx hb dX7_fewest_60 ?_
            refine n_icmp_ne (tgt := 69) hx hb dX7_fewest_61 (by decide) (by omega) (by omega) (fun hc61 => ?_) (fun hc61 => ?_)
            · skip
              refine lv_aload_n hx hb dX7_fewest_69 rfl (lv_at hl 1 rfl) ?_
              refine n_get hx hb hts u_X7 hown hK hP (by omega) f_y rfl 21 (by decide) (nT_m wf_X7_71) rfl dX7_fewest_70 ?_
              refine lv_iload_n hx hb dX7_fewest_73 rfl (lv_at hl 4 rfl) ?_
              refine n_iald hx hb hK hP kk (by omega) f_tk (by omega) (by omega) (by decide) dX7_fewest_74 ?_
              refine n_iretP hQ hx hb hr hlocks hP hS dX7_fewest_75 ?_
              exact ⟨hfr, by rw [if_neg (by omega), ← hq9.2 (by omega) kk hk, htk hc56], ⟨_, f_by⟩, ⟨_, f_fw⟩, ⟨_, f_tk⟩, ⟨_, f_bd⟩⟩
            · skip
              exact absurd hc61 (by omega)
        · skip
          exact absurd ⟨by omega, by omega, by rw [Int.toNat_natCast]; omega⟩ hc36
set_option maxHeartbeats 4000000 in
set_option maxRecDepth 100000 in
theorem c_X7_sale_no {l : Launch} {G : nG} {N : Nat} {ad : Nat → Nat} {w : Nat → va_E} {sz : Nat} (y : Nat) (Co Tl : Nat → Nat) (tz pz yz z nz : Int) (hN : y + 26 < N) (hCo : ∀ k, k < 2 → Co k ≤ 8) (hTl : ∀ k, k < 1 → Tl k ≤ 4) (htz : -2147483648 ≤ tz ∧ tz < 2147483648) (hpz : -2147483648 ≤ pz ∧ pz < 2147483648) (hy : -2147483648 ≤ yz ∧ yz < 2147483648) (hz : -2147483648 ≤ z ∧ z < 2147483648) (hnz : -2147483648 ≤ nz ∧ nz < 2147483648) (hno : ¬ ((0 ≤ tz ∧ tz < (Tl 0 : Int)) ∧ ((1 ≤ pz ∧ pz ≤ 2000) ∧ (1 ≤ nz ∧ nz ≤ 50) ∧ (yz = 0 ∨ yz = 1) ∧ (0 ≤ z ∧ z < (Co (yz).toNat : Int))))) (f_y : w y = .inr (7, [.int (iI 0), .ref (ad (y + 1)), .ref (ad (y + 2)), .ref (ad (y + 3)), .ref (ad (y + 4)), .ref (ad (y + 5)), .ref (ad (y + 6)), .ref (ad (y + 7)), .ref (ad (y + 8)), .ref (ad (y + 9)), .ref (ad (y + 10)), .ref (ad (y + 11)), .ref (ad (y + 12)), .ref (ad (y + 13)), .ref (ad (y + 14)), .ref (ad (y + 15)), .ref (ad (y + 16)), .ref (ad (y + 17)), .ref (ad (y + 18)), .ref (ad (y + 19)), .ref (ad (y + 20)), .ref (ad (y + 21)), .ref (ad (y + 22)), .ref (ad (y + 23)), .ref (ad (y + 24)), .ref (ad (y + 25)), .ref (ad (y + 26))])) (f_Co : w (y + 1) = aI G 8 (fun q => (Co q : Int))) (f_Tl : w (y + 9) = aI G 4 (fun q => (Tl q : Int))) : Met l yX7_sale wsX7_sale ({ frames := 3, cells := 0, slots := 0, locals := 69 }) (va_Pc [.ref (ad y), .int (iI tz), .int (iI pz), .int (iI yz), .int (iI z), .int (iI nz)] (nB G N ad w sz)) (nPi G N ad sz (fun r u => (∀ j, u j = w j) ∧ (r = -1))) 0 0 (nA N ad sz) := by
  refine n_ent (cc := cX7_sale) (maxL := 11) (ret := (some .int)) (by decide) rfl (Nat.le_of_ble_eq_true rfl) ?_
  intro p e s m below meth cd hx hb hr hml hlocks hts hown hnm hsz hP hK hI Q hQ ls hl
  have hown : s.vm.findClass RX7 = some m.cls := hown
  subst hsz
  have hJ := hI.J s.heap.size
  have hS : va_S (nA N ad s.heap.size) s.heap s.heap [] := va_S.rf
  have hfr : ∀ j, w j = w j := fun _  => rfl
  have hl : lv_has ls 11 [(0, .ref (ad y)), (1, .int (iI tz)), (2, .int (iI pz)), (3, .int (iI yz)), (4, .int (iI z)), (5, .int (iI nz))] := hl
  refine lv_aload_n hx hb dX7_sale_0 rfl (lv_at hl 0 rfl) ?_
  refine n_iconst hx hb dX7_sale_1 ?_
  refine n_put hx hb hts u_X7 tyX7 tyX7_ok nmX7 hown hK hJ hP hS (by omega) f_y rfl 0 (by decide) (nT_m wf_X7_90) rfl rfl rfl (Nat.le_of_ble_eq_true rfl) dX7_sale_2 (fun w1 H locs f9 hne9 hP hS => ?_)
  have ew9 : w = w1 := funext fun j9 => (Decidable.em (j9 = y)).elim (fun h9 => by rw [h9, f9]; exact f_y) (fun h9 => (hne9 j9 h9).symm)
  subst ew9
  refine lv_aload_n hx hb dX7_sale_5 rfl (lv_at hl 0 rfl) ?_
  refine lv_iload_n hx hb dX7_sale_6 rfl (lv_at hl 1 rfl) ?_
  refine lv_iload_n hx hb dX7_sale_7 rfl (lv_at hl 2 rfl) ?_
  refine lv_iload_n hx hb dX7_sale_8 rfl (lv_at hl 3 rfl) ?_
  refine lv_iload hx hb dX7_sale_9 (lv_at hl 4 rfl) ?_
  refine lv_iload hx hb dX7_sale_11 (lv_at hl 5 rfl) ?_
  refine n_rdF (va_runV (As := [.int (iI tz), .int (iI pz), .int (iI yz), .int (iI z), .int (iI nz)]) (rest := []) ⟨hx, hb, hml, hown, hts⟩ (c_X7_isSale _ Co Tl tz pz yz z nz (by omega) hCo hTl (by omega) (by omega) (by omega) (by omega) (by omega) f_y f_Co f_Tl) (cwV 5 hts (nT_V wl_X7_141 wi_X7_isSale ws_X7_isSale wn_X7 wc_X7_isSale) rfl rfl rfl (by decide +kernel) ⟨Nat.le_of_ble_eq_true rfl, Nat.le_of_ble_eq_true rfl⟩) (nB.preV hK hI hP (by omega) f_y rfl rfl) rfl rfl hl.1 rfl (lv_room (Nat.le_of_ble_eq_true rfl)) dX7_sale_13 ⟨Nat.zero_le _, Nat.zero_le _⟩) ?_
  refine n_if_neB (tgt := 21) hx hb dX7_sale_16 (by decide) (fun hc16 => ?_) (fun hc16 => ?_)
  · skip
    exact absurd hc16 hno
  · skip
    refine n_iconst hx hb dX7_sale_19 ?_
    refine n_iretP hQ hx hb hr hlocks hP hS dX7_sale_20 ?_
    exact ⟨hfr, rfl⟩
set_option maxHeartbeats 4000000 in
set_option maxRecDepth 100000 in
theorem c_X7_sale_ref {l : Launch} {G : nG} {N : Nat} {ad : Nat → Nat} {w : Nat → va_E} {sz : Nat} (y : Nat) (Co Va Ra Tl Ha : Nat → Nat) (t sy kk a c : Nat) (hN : y + 26 < N) (hCo : ∀ k, k < 2 → Co k ≤ 8) (hVa : ∀ k, k < 16 → Va k ≤ 1000) (hRa : ∀ k, k < 2 → 1 ≤ Ra k ∧ Ra k ≤ 100) (hTl : ∀ k, k < 1 → Tl k ≤ 4) (hHa : ∀ k, k < 64 → Ha k ≤ 1000) (ht : t < Tl 0) (hs : sy < 2) (hk : kk < Co sy) (ha : 1 ≤ a ∧ a ≤ 2000) (hc : 1 ≤ c ∧ c ≤ 50) (hno : (((c : Nat) : Int) * (Va (8 * sy + kk) : Int) * ((if sy = 0 then Ra 0 else Ra 1 : Nat) : Int) - ((a : Nat) : Int) * ((Ra 1 : Nat) : Int)) < 0 ∨ 2000 < (((c : Nat) : Int) * (Va (8 * sy + kk) : Int) * ((if sy = 0 then Ra 0 else Ra 1 : Nat) : Int) - ((a : Nat) : Int) * ((Ra 1 : Nat) : Int)) / ((Ra 1 : Nat) : Int) ∨ 1000 < Ha (16 * t + 8 * sy + kk) + c) (f_y : w y = .inr (7, [.int (iI 0), .ref (ad (y + 1)), .ref (ad (y + 2)), .ref (ad (y + 3)), .ref (ad (y + 4)), .ref (ad (y + 5)), .ref (ad (y + 6)), .ref (ad (y + 7)), .ref (ad (y + 8)), .ref (ad (y + 9)), .ref (ad (y + 10)), .ref (ad (y + 11)), .ref (ad (y + 12)), .ref (ad (y + 13)), .ref (ad (y + 14)), .ref (ad (y + 15)), .ref (ad (y + 16)), .ref (ad (y + 17)), .ref (ad (y + 18)), .ref (ad (y + 19)), .ref (ad (y + 20)), .ref (ad (y + 21)), .ref (ad (y + 22)), .ref (ad (y + 23)), .ref (ad (y + 24)), .ref (ad (y + 25)), .ref (ad (y + 26))])) (f_Co : w (y + 1) = aI G 8 (fun q => (Co q : Int))) (f_Va : w (y + 2) = aI G 64 (fun q => (Va q : Int))) (f_Ra : w (y + 3) = aI G 8 (fun q => (Ra q : Int))) (f_Tl : w (y + 9) = aI G 4 (fun q => (Tl q : Int))) (f_Ha : w (y + 14) = aI G 256 (fun q => (Ha q : Int))) : Met l yX7_sale wsX7_sale ({ frames := 3, cells := 0, slots := 0, locals := 69 }) (va_Pc [.ref (ad y), .int (iI ((t : Nat) : Int)), .int (iI ((a : Nat) : Int)), .int (iI ((sy : Nat) : Int)), .int (iI ((kk : Nat) : Int)), .int (iI ((c : Nat) : Int))] (nB G N ad w sz)) (nPi G N ad sz (fun r u => (∀ j, u j = w j) ∧ (r = -1))) 0 0 (nA N ad sz) := by
  refine n_ent (cc := cX7_sale) (maxL := 11) (ret := (some .int)) (by decide) rfl (Nat.le_of_ble_eq_true rfl) ?_
  intro p e s m below meth cd hx hb hr hml hlocks hts hown hnm hsz hP hK hI Q hQ ls hl
  have hown : s.vm.findClass RX7 = some m.cls := hown
  subst hsz
  have hJ := hI.J s.heap.size
  have hS : va_S (nA N ad s.heap.size) s.heap s.heap [] := va_S.rf
  have hfr : ∀ j, w j = w j := fun _  => rfl
  have hl : lv_has ls 11 [(0, .ref (ad y)), (1, .int (iI ((t : Nat) : Int))), (2, .int (iI ((a : Nat) : Int))), (3, .int (iI ((sy : Nat) : Int))), (4, .int (iI ((kk : Nat) : Int))), (5, .int (iI ((c : Nat) : Int)))] := hl
  have ht0 := hTl 0 (by omega)
  have hcs := hCo sy hs
  have hr0 := hRa 0 (by omega)
  have hr1 := hRa 1 (by omega)
  have hv9 := hVa (8 * sy + kk) (by omega)
  have hsr : -200000 ≤ ((c : Nat) : Int) * (Va (8 * sy + kk) : Int) * ((if sy = 0 then Ra 0 else Ra 1 : Nat) : Int) - ((a : Nat) : Int) * ((Ra 1 : Nat) : Int) ∧ ((c : Nat) : Int) * (Va (8 * sy + kk) : Int) * ((if sy = 0 then Ra 0 else Ra 1 : Nat) : Int) - ((a : Nat) : Int) * ((Ra 1 : Nat) : Int) ≤ 5000000 := spare_rng hc.2 hv9 hr0.2 hr1.2 ha.2
  refine lv_aload_n hx hb dX7_sale_0 rfl (lv_at hl 0 rfl) ?_
  refine n_iconst hx hb dX7_sale_1 ?_
  refine n_put hx hb hts u_X7 tyX7 tyX7_ok nmX7 hown hK hJ hP hS (by omega) f_y rfl 0 (by decide) (nT_m wf_X7_90) rfl rfl rfl (Nat.le_of_ble_eq_true rfl) dX7_sale_2 (fun w1 H locs f9 hne9 hP hS => ?_)
  have ew9 : w = w1 := funext fun j9 => (Decidable.em (j9 = y)).elim (fun h9 => by rw [h9, f9]; exact f_y) (fun h9 => (hne9 j9 h9).symm)
  subst ew9
  refine lv_aload_n hx hb dX7_sale_5 rfl (lv_at hl 0 rfl) ?_
  refine lv_iload_n hx hb dX7_sale_6 rfl (lv_at hl 1 rfl) ?_
  refine lv_iload_n hx hb dX7_sale_7 rfl (lv_at hl 2 rfl) ?_
  refine lv_iload_n hx hb dX7_sale_8 rfl (lv_at hl 3 rfl) ?_
  refine lv_iload hx hb dX7_sale_9 (lv_at hl 4 rfl) ?_
  refine lv_iload hx hb dX7_sale_11 (lv_at hl 5 rfl) ?_
  refine n_rdF (va_runV (As := [.int (iI ((t : Nat) : Int)), .int (iI ((a : Nat) : Int)), .int (iI ((sy : Nat) : Int)), .int (iI ((kk : Nat) : Int)), .int (iI ((c : Nat) : Int))]) (rest := []) ⟨hx, hb, hml, hown, hts⟩ (c_X7_isSale _ Co Tl ((t : Nat) : Int) ((a : Nat) : Int) ((sy : Nat) : Int) ((kk : Nat) : Int) ((c : Nat) : Int) (by omega) hCo hTl (by omega) (by omega) (by omega) (by omega) (by omega) f_y f_Co f_Tl) (cwV 5 hts (nT_V wl_X7_141 wi_X7_isSale ws_X7_isSale wn_X7 wc_X7_isSale) rfl rfl rfl (by decide +kernel) ⟨Nat.le_of_ble_eq_true rfl, Nat.le_of_ble_eq_true rfl⟩) (nB.preV hK hI hP (by omega) f_y rfl rfl) rfl rfl hl.1 rfl (lv_room (Nat.le_of_ble_eq_true rfl)) dX7_sale_13 ⟨Nat.zero_le _, Nat.zero_le _⟩) ?_
  refine n_if_neB (tgt := 21) hx hb dX7_sale_16 (by decide) (fun hc16 => ?_) (fun hc16 => ?_)
  · skip
    refine lv_aload_n hx hb dX7_sale_21 rfl (lv_at hl 0 rfl) ?_
    refine lv_iload_n hx hb dX7_sale_22 rfl (lv_at hl 2 rfl) ?_
    refine lv_iload_n hx hb dX7_sale_23 rfl (lv_at hl 3 rfl) ?_
    refine lv_iload hx hb dX7_sale_24 (lv_at hl 4 rfl) ?_
    refine lv_iload hx hb dX7_sale_26 (lv_at hl 5 rfl) ?_
    refine n_rdF (va_runV (As := [.int (iI ((a : Nat) : Int)), .int (iI ((sy : Nat) : Int)), .int (iI ((kk : Nat) : Int)), .int (iI ((c : Nat) : Int))]) (rest := []) ⟨hx, hb, hml, hown, hts⟩ (c_X7_over _ Va Ra a sy kk c (by omega) hVa hRa (by omega) (by omega) f_y f_Va f_Ra) (cwV 4 hts (nT_V wl_X7_145 wi_X7_over ws_X7_over wn_X7 wc_X7_over) rfl rfl rfl (by decide +kernel) ⟨Nat.le_of_ble_eq_true rfl, Nat.le_of_ble_eq_true rfl⟩) (nB.preV hK hI hP (by omega) f_y rfl rfl) rfl rfl hl.1 rfl (lv_room (Nat.le_of_ble_eq_true rfl)) dX7_sale_28 ⟨Nat.zero_le _, Nat.zero_le _⟩) ?_
    refine lv_istore (lv' := [(6, .int (iI (((c : Nat) : Int) * (Va (8 * sy + kk) : Int) * ((if sy = 0 then Ra 0 else Ra 1 : Nat) : Int) - ((a : Nat) : Int) * ((Ra 1 : Nat) : Int)))), (0, .ref (ad y)), (1, .int (iI ((t : Nat) : Int))), (2, .int (iI ((a : Nat) : Int))), (3, .int (iI ((sy : Nat) : Int))), (4, .int (iI ((kk : Nat) : Int))), (5, .int (iI ((c : Nat) : Int)))]) hx hb dX7_sale_31 hl (by decide) rfl (fun ls hl => ?_)
    refine lv_iload_n hx hb dX7_sale_33 rfl (lv_at hl 2 rfl) ?_
    refine lv_iload_n hx hb dX7_sale_34 rfl (lv_at hl 4 rfl) ?_
    refine lv_iload hx hb dX7_sale_35 (lv_at hl 5 rfl) ?_
    refine n_rdF (va_runS (As := [.int (iI ((t : Nat) : Int)), .int (iI ((sy : Nat) : Int)), .int (iI ((kk : Nat) : Int))]) (rest := []) ⟨hx, hb, hml, hown, hts⟩ (c_X7_cell t sy kk (by omega) (by omega) (by omega)) (va_cwS 3 hts (nT_S wl_X7_134 wt_X7_cell wn_X7 wc_X7_cell) rfl rfl rfl (by decide +kernel) ⟨Nat.le_of_ble_eq_true rfl, Nat.le_of_ble_eq_true rfl⟩) preEq rfl rfl hl.1 rfl (lv_room (Nat.le_of_ble_eq_true rfl)) dX7_sale_37 ⟨Nat.zero_le _, Nat.zero_le _⟩) ?_
    refine lv_istore (lv' := [(7, .int (iI ((16 * t + 8 * sy + kk : Nat) : Int))), (6, .int (iI (((c : Nat) : Int) * (Va (8 * sy + kk) : Int) * ((if sy = 0 then Ra 0 else Ra 1 : Nat) : Int) - ((a : Nat) : Int) * ((Ra 1 : Nat) : Int)))), (0, .ref (ad y)), (1, .int (iI ((t : Nat) : Int))), (2, .int (iI ((a : Nat) : Int))), (3, .int (iI ((sy : Nat) : Int))), (4, .int (iI ((kk : Nat) : Int))), (5, .int (iI ((c : Nat) : Int)))]) hx hb dX7_sale_40 hl (by decide) rfl (fun ls hl => ?_)
    refine lv_iload hx hb dX7_sale_42 (lv_at hl 1 rfl) ?_
    refine lv_aload_n hx hb dX7_sale_44 rfl (lv_at hl 2 rfl) ?_
    refine n_get hx hb hts u_X7 hown hK hP (by omega) f_y rfl 3 (by decide) (nT_m wf_X7_16) rfl dX7_sale_45 ?_
    refine n_iconst hx hb dX7_sale_48 ?_
    refine n_iald hx hb hK hP 1 (by omega) f_Ra (by omega) (by omega) (by decide) dX7_sale_49 ?_
    have ho3 := hRa 1 (by omega)
    refine n_idiv hx hb dX7_sale_50 (by omega) (by omega) ?_
    refine lv_istore (lv' := [(8, .int (iI (Int.tdiv (((c : Nat) : Int) * (Va (8 * sy + kk) : Int) * ((if sy = 0 then Ra 0 else Ra 1 : Nat) : Int) - ((a : Nat) : Int) * ((Ra 1 : Nat) : Int)) (Ra 1 : Int)))), (7, .int (iI ((16 * t + 8 * sy + kk : Nat) : Int))), (6, .int (iI (((c : Nat) : Int) * (Va (8 * sy + kk) : Int) * ((if sy = 0 then Ra 0 else Ra 1 : Nat) : Int) - ((a : Nat) : Int) * ((Ra 1 : Nat) : Int)))), (0, .ref (ad y)), (1, .int (iI ((t : Nat) : Int))), (2, .int (iI ((a : Nat) : Int))), (3, .int (iI ((sy : Nat) : Int))), (4, .int (iI ((kk : Nat) : Int))), (5, .int (iI ((c : Nat) : Int)))]) hx hb dX7_sale_51 hl (by decide) rfl (fun ls hl => ?_)
    refine lv_iload hx hb dX7_sale_53 (lv_at hl 2 rfl) ?_
    refine n_if_lt (tgt := 82) hx hb dX7_sale_55 (by decide) (by omega) (fun hc55 => ?_) (fun hc55 => ?_)
    · skip
      refine n_iconst hx hb dX7_sale_82 ?_
      refine n_iretP hQ hx hb hr hlocks hP hS dX7_sale_83 ?_
      exact ⟨hfr, rfl⟩
    · skip
      have htd : Int.tdiv (((c : Nat) : Int) * (Va (8 * sy + kk) : Int) * ((if sy = 0 then Ra 0 else Ra 1 : Nat) : Int) - ((a : Nat) : Int) * ((Ra 1 : Nat) : Int)) ((Ra 1 : Nat) : Int) = (((c : Nat) : Int) * (Va (8 * sy + kk) : Int) * ((if sy = 0 then Ra 0 else Ra 1 : Nat) : Int) - ((a : Nat) : Int) * ((Ra 1 : Nat) : Int)) / ((Ra 1 : Nat) : Int) := Int.tdiv_eq_ediv_of_nonneg (by omega)
      have hd0 : 0 ≤ (((c : Nat) : Int) * (Va (8 * sy + kk) : Int) * ((if sy = 0 then Ra 0 else Ra 1 : Nat) : Int) - ((a : Nat) : Int) * ((Ra 1 : Nat) : Int)) / ((Ra 1 : Nat) : Int) := Int.ediv_nonneg (by omega) (by omega)
      have hd1 : (((c : Nat) : Int) * (Va (8 * sy + kk) : Int) * ((if sy = 0 then Ra 0 else Ra 1 : Nat) : Int) - ((a : Nat) : Int) * ((Ra 1 : Nat) : Int)) / ((Ra 1 : Nat) : Int) ≤ ((c : Nat) : Int) * (Va (8 * sy + kk) : Int) * ((if sy = 0 then Ra 0 else Ra 1 : Nat) : Int) - ((a : Nat) : Int) * ((Ra 1 : Nat) : Int) := Int.ediv_le_self _ (by omega)
      refine lv_iload hx hb dX7_sale_58 (lv_at hl 0 rfl) ?_
      refine n_sipush hx hb dX7_sale_60 (by decide) ?_
      refine n_icmp_gt (tgt := 82) hx hb dX7_sale_63 (by decide) (by omega) (by omega) (fun hc63 => ?_) (fun hc63 => ?_)
      · skip
        refine n_iconst hx hb dX7_sale_82 ?_
        refine n_iretP hQ hx hb hr hlocks hP hS dX7_sale_83 ?_
        exact ⟨hfr, rfl⟩
      · skip
        refine lv_aload_n hx hb dX7_sale_66 rfl (lv_at hl 3 rfl) ?_
        refine n_get hx hb hts u_X7 hown hK hP (by omega) f_y rfl 14 (by decide) (nT_m wf_X7_50) rfl dX7_sale_67 ?_
        refine lv_iload hx hb dX7_sale_70 (lv_at hl 1 rfl) ?_
        refine n_iald hx hb hK hP (16 * t + 8 * sy + kk) (by omega) f_Ha (by omega) (by omega) (by decide) dX7_sale_72 ?_
        have ho4 := hHa (16 * t + 8 * sy + kk) (by omega)
        refine lv_iload hx hb dX7_sale_73 (lv_at hl 8 rfl) ?_
        refine n_iadd hx hb dX7_sale_75 ?_
        refine n_sipush hx hb dX7_sale_76 (by decide) ?_
        refine n_icmp_le (tgt := 84) hx hb dX7_sale_79 (by decide) (by omega) (by omega) (fun hc79 => ?_) (fun hc79 => ?_)
        · skip
          exact absurd hno (by omega)
        · skip
          refine n_iconst hx hb dX7_sale_82 ?_
          refine n_iretP hQ hx hb hr hlocks hP hS dX7_sale_83 ?_
          exact ⟨hfr, rfl⟩
  · skip
    exact absurd ⟨by omega, by omega, by omega, by omega, by rw [Int.toNat_natCast]; omega⟩ hc16
set_option maxHeartbeats 4000000 in
set_option maxRecDepth 100000 in
theorem c_X7_sale_main {l : Launch} {G : nG} {N : Nat} {ad : Nat → Nat} {w : Nat → va_E} {sz : Nat} (y : Nat) (Co Va Ra Sl Tl Ts Sc Pd Ha Ga : Nat → Nat) (t sy kk a c sp : Nat) (b9 bd tk0 : Nat → Nat) (Fw0 : Nat → Int) (hN : y + 26 < N) (hCo : ∀ k, k < 2 → Co k ≤ 8) (hVa : ∀ k, k < 16 → Va k ≤ 1000) (hRa : ∀ k, k < 2 → 1 ≤ Ra k ∧ Ra k ≤ 100) (hSl : ∀ k, k < 1 → Sl k < 2147483647) (hTl : ∀ k, k < 1 → Tl k ≤ 4) (hTs : ∀ k, k < 4 → Ts k < 2147483647) (hHa : ∀ k, k < 64 → Ha k ≤ 1000) (ht : t < Tl 0) (hs : sy < 2) (hk : kk < Co sy) (ha : 1 ≤ a ∧ a ≤ 2000) (hc : 1 ≤ c ∧ c ≤ 50) (hspe : ((c : Nat) : Int) * (Va (8 * sy + kk) : Int) * ((if sy = 0 then Ra 0 else Ra 1 : Nat) : Int) - ((a : Nat) : Int) * ((Ra 1 : Nat) : Int) = (sp : Int)) (hch : sp / Ra 1 ≤ 2000) (hok : Ha (16 * t + 8 * sy + kk) + c ≤ 1000) (hV1 : ∀ k, k < Co 1 → 1 ≤ Va (8 * 1 + k)) (f_y : w y = .inr (7, [.int (iI 0), .ref (ad (y + 1)), .ref (ad (y + 2)), .ref (ad (y + 3)), .ref (ad (y + 4)), .ref (ad (y + 5)), .ref (ad (y + 6)), .ref (ad (y + 7)), .ref (ad (y + 8)), .ref (ad (y + 9)), .ref (ad (y + 10)), .ref (ad (y + 11)), .ref (ad (y + 12)), .ref (ad (y + 13)), .ref (ad (y + 14)), .ref (ad (y + 15)), .ref (ad (y + 16)), .ref (ad (y + 17)), .ref (ad (y + 18)), .ref (ad (y + 19)), .ref (ad (y + 20)), .ref (ad (y + 21)), .ref (ad (y + 22)), .ref (ad (y + 23)), .ref (ad (y + 24)), .ref (ad (y + 25)), .ref (ad (y + 26))])) (f_Co : w (y + 1) = aI G 8 (fun q => (Co q : Int))) (f_Va : w (y + 2) = aI G 64 (fun q => (Va q : Int))) (f_Ra : w (y + 3) = aI G 8 (fun q => (Ra q : Int))) (f_Sl : w (y + 4) = aI G 4 (fun q => (Sl q : Int))) (f_Tl : w (y + 9) = aI G 4 (fun q => (Tl q : Int))) (f_Ts : w (y + 10) = aI G 16 (fun q => (Ts q : Int))) (f_Sc : w (y + 11) = aJ G 16 (fun q => (Sc q : Int))) (f_Pd : w (y + 12) = aJ G 16 (fun q => (Pd q : Int))) (f_Ha : w (y + 14) = aI G 256 (fun q => (Ha q : Int))) (f_Ga : w (y + 15) = aI G 128 (fun q => (Ga q : Int))) (f_by : w (y + 19) = aI G 8 (fun q => (b9 q : Int))) (f_fw : w (y + 20) = aI G 18009 Fw0) (f_tk : w (y + 21) = aI G 8 (fun q => (tk0 q : Int))) (f_bd : w (y + 22) = aI G 8 (fun q => (bd q : Int))) : Met l yX7_sale wsX7_sale ({ frames := 3, cells := 0, slots := 0, locals := 69 }) (va_Pc [.ref (ad y), .int (iI ((t : Nat) : Int)), .int (iI ((a : Nat) : Int)), .int (iI ((sy : Nat) : Int)), .int (iI ((kk : Nat) : Int)), .int (iI ((c : Nat) : Int))] (nB G N ad w sz)) (nPi G N ad sz (fun r u => (∀ j, j ≠ (y + 4) → j ≠ (y + 10) → j ≠ (y + 11) → j ≠ (y + 12) → j ≠ (y + 14) → j ≠ (y + 15) → j ≠ (y + 19) → j ≠ (y + 20) → j ≠ (y + 21) → j ≠ (y + 22) → u j = w j) ∧ (∃ (B bd1 : Nat → Nat) (Fw : Nat → Int) (tk1 : Nat → Nat), (∃ b8, B = srt (fun q9 => Va (8 * 1 + q9)) b8 (Co 1)) ∧ (∀ k, k < 8 → bd1 k = (va_up Ha (16 * t + 8 * sy + kk) (Ha (16 * t + 8 * sy + kk) + c)) (16 * t + 8 + k)) ∧ fOK Fw (fun q9 => Va (8 * 1 + q9)) B bd1 (Co 1) (sp / Ra 1) 0 ∧ u (y + 19) = aI G 8 (fun q => (B q : Int)) ∧ u (y + 20) = aI G 18009 Fw ∧ u (y + 21) = aI G 8 (fun q => (tk1 q : Int)) ∧ u (y + 22) = aI G 8 (fun q => (bd1 q : Int)) ∧ (tbF Fw (Co 1) (Co 1) (sp / Ra 1) = -1 → r = -1 ∧ u (y + 4) = aI G 4 (fun q => (Sl q : Int)) ∧ u (y + 10) = aI G 16 (fun q => (Ts q : Int)) ∧ u (y + 11) = aJ G 16 (fun q => (Sc q : Int)) ∧ u (y + 12) = aJ G 16 (fun q => (Pd q : Int)) ∧ u (y + 14) = aI G 256 (fun q => (Ha q : Int)) ∧ u (y + 15) = aI G 128 (fun q => (Ga q : Int))) ∧ (¬ tbF Fw (Co 1) (Co 1) (sp / Ra 1) = -1 → r = ((sp / Ra 1 : Nat) : Int) ∧ (∃ tk2, tk1 = wrM (tbF Fw (Co 1)) (fun q9 => Va (8 * 1 + q9)) B bd1 (Co 1) (sp / Ra 1) tk2 (Co 1)) ∧ u (y + 4) = aI G 4 (fun q => ((va_up Sl 0 (Sl 0 + 1) q : Nat) : Int)) ∧ u (y + 10) = aI G 16 (fun q => ((va_up Ts t (Ts t + 1) q : Nat) : Int)) ∧ u (y + 11) = aJ G 16 (fun q => ((va_up Sc t (Sc t + sp % Ra 1) q : Nat) : Int)) ∧ u (y + 12) = aJ G 16 (fun q => ((va_up Pd t (Pd t + a * Ra 1) q : Nat) : Int)) ∧ u (y + 14) = aI G 256 (fun q => ((sbS (va_up Ha (16 * t + 8 * sy + kk) (Ha (16 * t + 8 * sy + kk) + c)) (gvF (Co 1) tk1) (16 * t + 8) 8 q : Nat) : Int)) ∧ u (y + 15) = aI G 128 (fun q => ((cpS Ga (gvF (Co 1) tk1) (8 * t) 8 q : Nat) : Int)))))) 0 0 (nA N ad sz) := by
  refine n_ent (cc := cX7_sale) (maxL := 11) (ret := (some .int)) (by decide) rfl (Nat.le_of_ble_eq_true rfl) ?_
  intro p e s m below meth cd hx hb hr hml hlocks hts hown hnm hsz hP hK hI Q hQ ls hl
  have hown : s.vm.findClass RX7 = some m.cls := hown
  subst hsz
  have hJ := hI.J s.heap.size
  have hS : va_S (nA N ad s.heap.size) s.heap s.heap [] := va_S.rf
  have hfr : ∀ j, j ≠ (y + 4) → j ≠ (y + 10) → j ≠ (y + 11) → j ≠ (y + 12) → j ≠ (y + 14) → j ≠ (y + 15) → j ≠ (y + 19) → j ≠ (y + 20) → j ≠ (y + 21) → j ≠ (y + 22) → w j = w j := fun _ _ _ _ _ _ _ _ _ _ _ => rfl
  have hl : lv_has ls 11 [(0, .ref (ad y)), (1, .int (iI ((t : Nat) : Int))), (2, .int (iI ((a : Nat) : Int))), (3, .int (iI ((sy : Nat) : Int))), (4, .int (iI ((kk : Nat) : Int))), (5, .int (iI ((c : Nat) : Int)))] := hl
  have ht0 := hTl 0 (by omega)
  have hcs := hCo sy hs
  have hr0 := hRa 0 (by omega)
  have hr1 := hRa 1 (by omega)
  have hv9 := hVa (8 * sy + kk) (by omega)
  have hsr : -200000 ≤ ((c : Nat) : Int) * (Va (8 * sy + kk) : Int) * ((if sy = 0 then Ra 0 else Ra 1 : Nat) : Int) - ((a : Nat) : Int) * ((Ra 1 : Nat) : Int) ∧ ((c : Nat) : Int) * (Va (8 * sy + kk) : Int) * ((if sy = 0 then Ra 0 else Ra 1 : Nat) : Int) - ((a : Nat) : Int) * ((Ra 1 : Nat) : Int) ≤ 5000000 := spare_rng hc.2 hv9 hr0.2 hr1.2 ha.2
  have hc1 := hCo 1 (by omega)
  obtain ⟨H1, hH1⟩ : ∃ z9 : Nat → Nat, z9 = (va_up Ha (16 * t + 8 * sy + kk) (Ha (16 * t + 8 * sy + kk) + c)) := ⟨_, rfl⟩
  have hH2 : ∀ k, k < 64 → H1 k ≤ 2000 := fun k hk9 => by rw [hH1]; by_cases e9 : k = (16 * t + 8 * sy + kk); rw [e9, va_up_self]; omega; rw [va_up_ne _ _ e9]; have := hHa k hk9; omega
  have hd0 : (0 : Int) ≤ ((sp : Nat) : Int) / ((Ra 1 : Nat) : Int) := Int.ediv_nonneg (by omega) (by omega)
  have hmd : sp % Ra 1 < Ra 1 := Nat.mod_lt _ (by omega)
  have ham : a * Ra 1 ≤ 2000 * 100 := Nat.mul_le_mul ha.2 hr1.2
  refine lv_aload_n hx hb dX7_sale_0 rfl (lv_at hl 0 rfl) ?_
  refine n_iconst hx hb dX7_sale_1 ?_
  refine n_put hx hb hts u_X7 tyX7 tyX7_ok nmX7 hown hK hJ hP hS (by omega) f_y rfl 0 (by decide) (nT_m wf_X7_90) rfl rfl rfl (Nat.le_of_ble_eq_true rfl) dX7_sale_2 (fun w1 H locs f9 hne9 hP hS => ?_)
  have ew9 : w = w1 := funext fun j9 => (Decidable.em (j9 = y)).elim (fun h9 => by rw [h9, f9]; exact f_y) (fun h9 => (hne9 j9 h9).symm)
  subst ew9
  refine lv_aload_n hx hb dX7_sale_5 rfl (lv_at hl 0 rfl) ?_
  refine lv_iload_n hx hb dX7_sale_6 rfl (lv_at hl 1 rfl) ?_
  refine lv_iload_n hx hb dX7_sale_7 rfl (lv_at hl 2 rfl) ?_
  refine lv_iload_n hx hb dX7_sale_8 rfl (lv_at hl 3 rfl) ?_
  refine lv_iload hx hb dX7_sale_9 (lv_at hl 4 rfl) ?_
  refine lv_iload hx hb dX7_sale_11 (lv_at hl 5 rfl) ?_
  refine n_rdF (va_runV (As := [.int (iI ((t : Nat) : Int)), .int (iI ((a : Nat) : Int)), .int (iI ((sy : Nat) : Int)), .int (iI ((kk : Nat) : Int)), .int (iI ((c : Nat) : Int))]) (rest := []) ⟨hx, hb, hml, hown, hts⟩ (c_X7_isSale _ Co Tl ((t : Nat) : Int) ((a : Nat) : Int) ((sy : Nat) : Int) ((kk : Nat) : Int) ((c : Nat) : Int) (by omega) hCo hTl (by omega) (by omega) (by omega) (by omega) (by omega) f_y f_Co f_Tl) (cwV 5 hts (nT_V wl_X7_141 wi_X7_isSale ws_X7_isSale wn_X7 wc_X7_isSale) rfl rfl rfl (by decide +kernel) ⟨Nat.le_of_ble_eq_true rfl, Nat.le_of_ble_eq_true rfl⟩) (nB.preV hK hI hP (by omega) f_y rfl rfl) rfl rfl hl.1 rfl (lv_room (Nat.le_of_ble_eq_true rfl)) dX7_sale_13 ⟨Nat.zero_le _, Nat.zero_le _⟩) ?_
  refine n_if_neB (tgt := 21) hx hb dX7_sale_16 (by decide) (fun hc16 => ?_) (fun hc16 => ?_)
  · skip
    refine lv_aload_n hx hb dX7_sale_21 rfl (lv_at hl 0 rfl) ?_
    refine lv_iload_n hx hb dX7_sale_22 rfl (lv_at hl 2 rfl) ?_
    refine lv_iload_n hx hb dX7_sale_23 rfl (lv_at hl 3 rfl) ?_
    refine lv_iload hx hb dX7_sale_24 (lv_at hl 4 rfl) ?_
    refine lv_iload hx hb dX7_sale_26 (lv_at hl 5 rfl) ?_
    refine n_rdF (va_runV (As := [.int (iI ((a : Nat) : Int)), .int (iI ((sy : Nat) : Int)), .int (iI ((kk : Nat) : Int)), .int (iI ((c : Nat) : Int))]) (rest := []) ⟨hx, hb, hml, hown, hts⟩ (c_X7_over _ Va Ra a sy kk c (by omega) hVa hRa (by omega) (by omega) f_y f_Va f_Ra) (cwV 4 hts (nT_V wl_X7_145 wi_X7_over ws_X7_over wn_X7 wc_X7_over) rfl rfl rfl (by decide +kernel) ⟨Nat.le_of_ble_eq_true rfl, Nat.le_of_ble_eq_true rfl⟩) (nB.preV hK hI hP (by omega) f_y rfl rfl) rfl rfl hl.1 rfl (lv_room (Nat.le_of_ble_eq_true rfl)) dX7_sale_28 ⟨Nat.zero_le _, Nat.zero_le _⟩) ?_
    refine lv_istore (lv' := [(6, .int (iI ((sp : Nat) : Int))), (0, .ref (ad y)), (1, .int (iI ((t : Nat) : Int))), (2, .int (iI ((a : Nat) : Int))), (3, .int (iI ((sy : Nat) : Int))), (4, .int (iI ((kk : Nat) : Int))), (5, .int (iI ((c : Nat) : Int)))]) hx hb dX7_sale_31 hl (by decide) (lc_i hspe rfl) (fun ls hl => ?_)
    refine lv_iload_n hx hb dX7_sale_33 rfl (lv_at hl 2 rfl) ?_
    refine lv_iload_n hx hb dX7_sale_34 rfl (lv_at hl 4 rfl) ?_
    refine lv_iload hx hb dX7_sale_35 (lv_at hl 5 rfl) ?_
    refine n_rdF (va_runS (As := [.int (iI ((t : Nat) : Int)), .int (iI ((sy : Nat) : Int)), .int (iI ((kk : Nat) : Int))]) (rest := []) ⟨hx, hb, hml, hown, hts⟩ (c_X7_cell t sy kk (by omega) (by omega) (by omega)) (va_cwS 3 hts (nT_S wl_X7_134 wt_X7_cell wn_X7 wc_X7_cell) rfl rfl rfl (by decide +kernel) ⟨Nat.le_of_ble_eq_true rfl, Nat.le_of_ble_eq_true rfl⟩) preEq rfl rfl hl.1 rfl (lv_room (Nat.le_of_ble_eq_true rfl)) dX7_sale_37 ⟨Nat.zero_le _, Nat.zero_le _⟩) ?_
    refine lv_istore (lv' := [(7, .int (iI ((16 * t + 8 * sy + kk : Nat) : Int))), (6, .int (iI ((sp : Nat) : Int))), (0, .ref (ad y)), (1, .int (iI ((t : Nat) : Int))), (2, .int (iI ((a : Nat) : Int))), (3, .int (iI ((sy : Nat) : Int))), (4, .int (iI ((kk : Nat) : Int))), (5, .int (iI ((c : Nat) : Int)))]) hx hb dX7_sale_40 hl (by decide) rfl (fun ls hl => ?_)
    refine lv_iload hx hb dX7_sale_42 (lv_at hl 1 rfl) ?_
    refine lv_aload_n hx hb dX7_sale_44 rfl (lv_at hl 2 rfl) ?_
    refine n_get hx hb hts u_X7 hown hK hP (by omega) f_y rfl 3 (by decide) (nT_m wf_X7_16) rfl dX7_sale_45 ?_
    refine n_iconst hx hb dX7_sale_48 ?_
    refine n_iald hx hb hK hP 1 (by omega) f_Ra (by omega) (by omega) (by decide) dX7_sale_49 ?_
    have ho3 := hRa 1 (by omega)
    refine n_idivN hx hb dX7_sale_50 (by omega) (by omega) ?_
    refine lv_istore (lv' := [(8, .int (iI ((sp / Ra 1 : Nat) : Int))), (7, .int (iI ((16 * t + 8 * sy + kk : Nat) : Int))), (6, .int (iI ((sp : Nat) : Int))), (0, .ref (ad y)), (1, .int (iI ((t : Nat) : Int))), (2, .int (iI ((a : Nat) : Int))), (3, .int (iI ((sy : Nat) : Int))), (4, .int (iI ((kk : Nat) : Int))), (5, .int (iI ((c : Nat) : Int)))]) hx hb dX7_sale_51 hl (by decide) rfl (fun ls hl => ?_)
    refine lv_iload hx hb dX7_sale_53 (lv_at hl 2 rfl) ?_
    refine n_if_lt (tgt := 82) hx hb dX7_sale_55 (by decide) (by omega) (fun hc55 => ?_) (fun hc55 => ?_)
    · skip
      omega
    · skip
      refine lv_iload hx hb dX7_sale_58 (lv_at hl 0 rfl) ?_
      refine n_sipush hx hb dX7_sale_60 (by decide) ?_
      refine n_icmp_gt (tgt := 82) hx hb dX7_sale_63 (by decide) (by omega) (by omega) (fun hc63 => ?_) (fun hc63 => ?_)
      · skip
        omega
      · skip
        refine lv_aload_n hx hb dX7_sale_66 rfl (lv_at hl 3 rfl) ?_
        refine n_get hx hb hts u_X7 hown hK hP (by omega) f_y rfl 14 (by decide) (nT_m wf_X7_50) rfl dX7_sale_67 ?_
        refine lv_iload hx hb dX7_sale_70 (lv_at hl 1 rfl) ?_
        refine n_iald hx hb hK hP (16 * t + 8 * sy + kk) (by omega) f_Ha (by omega) (by omega) (by decide) dX7_sale_72 ?_
        have ho4 := hHa (16 * t + 8 * sy + kk) (by omega)
        refine lv_iload hx hb dX7_sale_73 (lv_at hl 8 rfl) ?_
        refine n_iadd hx hb dX7_sale_75 ?_
        refine n_sipush hx hb dX7_sale_76 (by decide) ?_
        refine n_icmp_le (tgt := 84) hx hb dX7_sale_79 (by decide) (by omega) (by omega) (fun hc79 => ?_) (fun hc79 => ?_)
        · skip
          refine n_iconst hx hb dX7_sale_84 ?_
          refine lv_istore (lv' := [(9, .int (iI 0)), (8, .int (iI ((sp / Ra 1 : Nat) : Int))), (7, .int (iI ((16 * t + 8 * sy + kk : Nat) : Int))), (6, .int (iI ((sp : Nat) : Int))), (0, .ref (ad y)), (1, .int (iI ((t : Nat) : Int))), (2, .int (iI ((a : Nat) : Int))), (3, .int (iI ((sy : Nat) : Int))), (4, .int (iI ((kk : Nat) : Int))), (5, .int (iI ((c : Nat) : Int)))]) hx hb dX7_sale_85 hl (by decide) rfl (fun ls hl => ?_)
          have lp5 : ∀ (fu : Nat), ∀ (q : Nat), ∀ (w6 : Nat → va_E) (H : Heap) (locs : List Loc), ∀ (ls : Array Slot), 8 - q < fu → q ≤ 8 → (∀ j, j ≠ (y + 4) → j ≠ (y + 10) → j ≠ (y + 11) → j ≠ (y + 12) → j ≠ (y + 14) → j ≠ (y + 15) → j ≠ (y + 19) → j ≠ (y + 20) → j ≠ (y + 21) → j ≠ (y + 22) → w6 j = w j) → w6 y = .inr (7, [.int (iI 0), .ref (ad (y + 1)), .ref (ad (y + 2)), .ref (ad (y + 3)), .ref (ad (y + 4)), .ref (ad (y + 5)), .ref (ad (y + 6)), .ref (ad (y + 7)), .ref (ad (y + 8)), .ref (ad (y + 9)), .ref (ad (y + 10)), .ref (ad (y + 11)), .ref (ad (y + 12)), .ref (ad (y + 13)), .ref (ad (y + 14)), .ref (ad (y + 15)), .ref (ad (y + 16)), .ref (ad (y + 17)), .ref (ad (y + 18)), .ref (ad (y + 19)), .ref (ad (y + 20)), .ref (ad (y + 21)), .ref (ad (y + 22)), .ref (ad (y + 23)), .ref (ad (y + 24)), .ref (ad (y + 25)), .ref (ad (y + 26))]) → w6 (y + 1) = aI G 8 (fun q => (Co q : Int)) → w6 (y + 2) = aI G 64 (fun q => (Va q : Int)) → w6 (y + 3) = aI G 8 (fun q => (Ra q : Int)) → w6 (y + 4) = aI G 4 (fun q => (Sl q : Int)) → w6 (y + 9) = aI G 4 (fun q => (Tl q : Int)) → w6 (y + 10) = aI G 16 (fun q => (Ts q : Int)) → w6 (y + 11) = aJ G 16 (fun q => (Sc q : Int)) → w6 (y + 12) = aJ G 16 (fun q => (Pd q : Int)) → w6 (y + 14) = aI G 256 (fun q => (Ha q : Int)) → w6 (y + 15) = aI G 128 (fun q => (Ga q : Int)) → w6 (y + 19) = aI G 8 (fun q => (b9 q : Int)) → w6 (y + 20) = aI G 18009 Fw0 → w6 (y + 21) = aI G 8 (fun q => (tk0 q : Int)) → w6 (y + 22) = aI G 8 (fun k => ((bnF bd H1 (16 * t + 8) q k : Nat) : Int)) → va_P G.1 vwCl (nL N ad w6) H → va_S (nA N ad s.heap.size) s.heap H locs → lv_has ls 11 [(0, .ref (ad y)), (1, .int (iI ((t : Nat) : Int))), (2, .int (iI ((a : Nat) : Int))), (3, .int (iI ((sy : Nat) : Int))), (4, .int (iI ((kk : Nat) : Int))), (5, .int (iI ((c : Nat) : Int))), (6, .int (iI ((sp : Nat) : Int))), (7, .int (iI ((16 * t + 8 * sy + kk : Nat) : Int))), (8, .int (iI ((sp / Ra 1 : Nat) : Int))), (9, .int (iI ((q : Nat) : Int)))] → W p l e ({ frames := 3, cells := 0, slots := 0, locals := 69 } : Room) s m ([.ref (ad y), .int (iI ((t : Nat) : Int)), .int (iI ((a : Nat) : Int)), .int (iI ((sy : Nat) : Int)), .int (iI ((kk : Nat) : Int)), .int (iI ((c : Nat) : Int))] : List Value).toArray below meth cd H locs 0 0 Q (F0 m 87 ls []) := by
            intro fu
            induction fu with
            | zero =>
              intro q w6 H locs ls hfu hq hfr f_y f_Co f_Va f_Ra f_Sl f_Tl f_Ts f_Sc f_Pd f_Ha f_Ga f_by f_fw f_tk f_bd hP hS hl
              exact absurd hfu (Nat.not_lt_zero _)
            | succ fu ih7 =>
              intro q w6 H locs ls hfu hq hfr f_y f_Co f_Va f_Ra f_Sl f_Tl f_Ts f_Sc f_Pd f_Ha f_Ga f_by f_fw f_tk f_bd hP hS hl
              refine lv_iload hx hb dX7_sale_87 (lv_at hl 9 rfl) ?_
              refine n_bipush hx hb dX7_sale_89 (by decide) ?_
              refine n_icmp_ge (tgt := 138) hx hb dX7_sale_91 (by decide) (by omega) (by omega) (fun hc91 => ?_) (fun hc91 => ?_)
              · skip
                have hq8 : q = 8 := by omega
                obtain ⟨bd1, hbd1⟩ : ∃ z9 : Nat → Nat, z9 = bnF bd H1 (16 * t + 8) q := ⟨_, rfl⟩
                have f_bd : w6 (y + 22) = aI G 8 (fun q => (bd1 q : Int)) := by rw [hbd1]; exact f_bd
                have hb1 : ∀ k, k < 8 → bd1 k = H1 (16 * t + 8 + k) := fun k hk9 => by rw [hbd1, hq8]; exact if_pos hk9
                have hbd : ∀ k, k < 8 → bd1 k ≤ 2000 := fun k hk9 => by rw [hb1 k hk9]; exact hH2 _ (by omega)
                refine lv_aload_n hx hb dX7_sale_138 rfl (lv_at hl 0 rfl) ?_
                refine n_iconst hx hb dX7_sale_139 ?_
                refine lv_iload hx hb dX7_sale_140 (lv_at hl 8 rfl) ?_
                refine n_cI (va_runV (As := [.int (iI 1), .int (iI ((sp / Ra 1 : Nat) : Int))]) (rest := []) ⟨hx, hb, hml, hown, hts⟩ (c_X7_find y Co Va 1 (sp / Ra 1) b9 bd1 tk0 Fw0 (by omega) hCo hVa (by omega) (by omega) hV1 hbd f_y f_Co f_Va f_by f_fw f_tk f_bd) (cwV 2 hts (nT_V wl_X7_128 wi_X7_find ws_X7_find wn_X7 wc_X7_find) rfl rfl rfl (by decide +kernel) ⟨Nat.le_of_ble_eq_true rfl, Nat.le_of_ble_eq_true rfl⟩) (nB.preV hK hI hP (by omega) f_y rfl rfl) rfl rfl hl.1 rfl (lv_room (Nat.le_of_ble_eq_true rfl)) dX7_sale_142 ⟨Nat.zero_le _, Nat.zero_le _⟩) hS (fun r9 w8 H locs hq10 hP hS => ?_)
                obtain ⟨hne11, B, Fw, tk1, hBe, hF, hre, htk, hp_by, hp_fw, hp_tk⟩ := hq10
                have f_y := (hne11 y (by omega) (by omega) (by omega)).trans f_y
                have f_Co := (hne11 (y + 1) (by omega) (by omega) (by omega)).trans f_Co
                have f_Va := (hne11 (y + 2) (by omega) (by omega) (by omega)).trans f_Va
                have f_Ra := (hne11 (y + 3) (by omega) (by omega) (by omega)).trans f_Ra
                have f_Sl := (hne11 (y + 4) (by omega) (by omega) (by omega)).trans f_Sl
                have f_Tl := (hne11 (y + 9) (by omega) (by omega) (by omega)).trans f_Tl
                have f_Ts := (hne11 (y + 10) (by omega) (by omega) (by omega)).trans f_Ts
                have f_Sc := (hne11 (y + 11) (by omega) (by omega) (by omega)).trans f_Sc
                have f_Pd := (hne11 (y + 12) (by omega) (by omega) (by omega)).trans f_Pd
                have f_Ha := (hne11 (y + 14) (by omega) (by omega) (by omega)).trans f_Ha
                have f_Ga := (hne11 (y + 15) (by omega) (by omega) (by omega)).trans f_Ga
                have f_bd := (hne11 (y + 22) (by omega) (by omega) (by omega)).trans f_bd
                have f_by : w8 (y + 19) = aI G 8 (fun q => (B q : Int)) := hp_by
                have f_fw : w8 (y + 20) = aI G 18009 Fw := hp_fw
                have f_tk : w8 (y + 21) = aI G 8 (fun q => (tk1 q : Int)) := hp_tk
                have hfr : ∀ j, j ≠ (y + 4) → j ≠ (y + 10) → j ≠ (y + 11) → j ≠ (y + 12) → j ≠ (y + 14) → j ≠ (y + 15) → j ≠ (y + 19) → j ≠ (y + 20) → j ≠ (y + 21) → j ≠ (y + 22) → w8 j = w j := fun j a0 a1 a2 a3 a4 a5 a6 a7 a8 a9 => (hne11 j (by omega) (by omega) (by omega)).trans (hfr j a0 a1 a2 a3 a4 a5 a6 a7 a8 a9)
                have hlr := (hF.2.2 0 (Nat.zero_le _) (Nat.zero_le _) (sp / Ra 1) (by omega))
                rw [Nat.mul_zero, Nat.zero_add] at hlr
                have htp := tbF_top Fw (Co 1) (sp / Ra 1)
                have hlr2 : -1 ≤ r9 ∧ r9 ≤ 2000 := by rw [hre, htp]; unfold dE; split <;> omega
                refine n_iconst hx hb dX7_sale_145 ?_
                refine n_icmp_ne (tgt := 151) hx hb dX7_sale_146 (by decide) (by omega) (by omega) (fun hc146 => ?_) (fun hc146 => ?_)
                · skip
                  refine lv_aload_n hx hb dX7_sale_151 rfl (lv_at hl 0 rfl) ?_
                  refine n_get hx hb hts u_X7 hown hK hP (by omega) f_y rfl 14 (by decide) (nT_m wf_X7_50) rfl dX7_sale_152 ?_
                  refine lv_iload hx hb dX7_sale_155 (lv_at hl 7 rfl) ?_
                  refine lv_dup2_11 hx hb dX7_sale_157 rfl rfl ?_
                  refine n_iald hx hb hK hP (16 * t + 8 * sy + kk) (by omega) f_Ha (by omega) (by omega) (by decide) dX7_sale_158 ?_
                  have ho12 := hHa (16 * t + 8 * sy + kk) (by omega)
                  refine lv_iload hx hb dX7_sale_159 (lv_at hl 5 rfl) ?_
                  refine n_iadd hx hb dX7_sale_161 ?_
                  refine n_iast hx hb hK hJ hP hS (16 * t + 8 * sy + kk) (by omega) f_Ha (by omega) (by omega) (by decide) dX7_sale_162 (fun w13 H locs f_Ha hne14 hP hS => ?_)
                  have f_y := (hne14 y (by omega)).trans f_y
                  have f_Co := (hne14 (y + 1) (by omega)).trans f_Co
                  have f_Va := (hne14 (y + 2) (by omega)).trans f_Va
                  have f_Ra := (hne14 (y + 3) (by omega)).trans f_Ra
                  have f_Sl := (hne14 (y + 4) (by omega)).trans f_Sl
                  have f_Tl := (hne14 (y + 9) (by omega)).trans f_Tl
                  have f_Ts := (hne14 (y + 10) (by omega)).trans f_Ts
                  have f_Sc := (hne14 (y + 11) (by omega)).trans f_Sc
                  have f_Pd := (hne14 (y + 12) (by omega)).trans f_Pd
                  have f_Ga := (hne14 (y + 15) (by omega)).trans f_Ga
                  have f_by := (hne14 (y + 19) (by omega)).trans f_by
                  have f_fw := (hne14 (y + 20) (by omega)).trans f_fw
                  have f_tk := (hne14 (y + 21) (by omega)).trans f_tk
                  have f_bd := (hne14 (y + 22) (by omega)).trans f_bd
                  have hfr : ∀ j, j ≠ (y + 4) → j ≠ (y + 10) → j ≠ (y + 11) → j ≠ (y + 12) → j ≠ (y + 14) → j ≠ (y + 15) → j ≠ (y + 19) → j ≠ (y + 20) → j ≠ (y + 21) → j ≠ (y + 22) → w13 j = w j := fun j a0 a1 a2 a3 a4 a5 a6 a7 a8 a9 => (hne14 j (by omega)).trans (hfr j a0 a1 a2 a3 a4 a5 a6 a7 a8 a9)
                  have f_Ha : w13 (y + 14) = aI G 256 (fun q => (H1 q : Int)) := by rw [hH1]; exact f_Ha.trans (congrArg (aI G 256) (upZ Ha (16 * t + 8 * sy + kk) (Ha (16 * t + 8 * sy + kk) + c) _ (by omega)))
                  have hsu := srt_sur (fun q9 => Va (8 * 1 + q9)) b9 (Co 1)
                  have htl : ∀ k, k < Co 1 → tk1 k ≤ H1 (16 * t + 8 + k) := fun k hk9 => by rw [← hb1 k (by omega), htk hc146]; exact wrM_at (Co 1) (by rw [hBe]; exact hsu k hk9)
                  refine n_iconst hx hb dX7_sale_163 ?_
                  refine lv_istore (lv' := [(9, .int (iI 0)), (0, .ref (ad y)), (1, .int (iI ((t : Nat) : Int))), (2, .int (iI ((a : Nat) : Int))), (3, .int (iI ((sy : Nat) : Int))), (4, .int (iI ((kk : Nat) : Int))), (5, .int (iI ((c : Nat) : Int))), (6, .int (iI ((sp : Nat) : Int))), (7, .int (iI ((16 * t + 8 * sy + kk : Nat) : Int))), (8, .int (iI ((sp / Ra 1 : Nat) : Int)))]) hx hb dX7_sale_164 hl (by decide) rfl (fun ls hl => ?_)
                  have lp15 : ∀ (fu : Nat), ∀ (g1 : Nat), ∀ (w16 : Nat → va_E) (H : Heap) (locs : List Loc), ∀ (ls : Array Slot), 8 - g1 < fu → g1 ≤ 8 → (∀ j, j ≠ (y + 4) → j ≠ (y + 10) → j ≠ (y + 11) → j ≠ (y + 12) → j ≠ (y + 14) → j ≠ (y + 15) → j ≠ (y + 19) → j ≠ (y + 20) → j ≠ (y + 21) → j ≠ (y + 22) → w16 j = w j) → w16 y = .inr (7, [.int (iI 0), .ref (ad (y + 1)), .ref (ad (y + 2)), .ref (ad (y + 3)), .ref (ad (y + 4)), .ref (ad (y + 5)), .ref (ad (y + 6)), .ref (ad (y + 7)), .ref (ad (y + 8)), .ref (ad (y + 9)), .ref (ad (y + 10)), .ref (ad (y + 11)), .ref (ad (y + 12)), .ref (ad (y + 13)), .ref (ad (y + 14)), .ref (ad (y + 15)), .ref (ad (y + 16)), .ref (ad (y + 17)), .ref (ad (y + 18)), .ref (ad (y + 19)), .ref (ad (y + 20)), .ref (ad (y + 21)), .ref (ad (y + 22)), .ref (ad (y + 23)), .ref (ad (y + 24)), .ref (ad (y + 25)), .ref (ad (y + 26))]) → w16 (y + 1) = aI G 8 (fun q => (Co q : Int)) → w16 (y + 2) = aI G 64 (fun q => (Va q : Int)) → w16 (y + 3) = aI G 8 (fun q => (Ra q : Int)) → w16 (y + 4) = aI G 4 (fun q => (Sl q : Int)) → w16 (y + 9) = aI G 4 (fun q => (Tl q : Int)) → w16 (y + 10) = aI G 16 (fun q => (Ts q : Int)) → w16 (y + 11) = aJ G 16 (fun q => (Sc q : Int)) → w16 (y + 12) = aJ G 16 (fun q => (Pd q : Int)) → w16 (y + 14) = aI G 256 (fun k => ((sbS H1 (gvF (Co 1) tk1) (16 * t + 8) g1 k : Nat) : Int)) → w16 (y + 15) = aI G 128 (fun k => ((cpS Ga (gvF (Co 1) tk1) (8 * t) g1 k : Nat) : Int)) → w16 (y + 19) = aI G 8 (fun q => (B q : Int)) → w16 (y + 20) = aI G 18009 Fw → w16 (y + 21) = aI G 8 (fun q => (tk1 q : Int)) → w16 (y + 22) = aI G 8 (fun q => (bd1 q : Int)) → va_P G.1 vwCl (nL N ad w16) H → va_S (nA N ad s.heap.size) s.heap H locs → lv_has ls 11 [(0, .ref (ad y)), (1, .int (iI ((t : Nat) : Int))), (2, .int (iI ((a : Nat) : Int))), (3, .int (iI ((sy : Nat) : Int))), (4, .int (iI ((kk : Nat) : Int))), (5, .int (iI ((c : Nat) : Int))), (6, .int (iI ((sp : Nat) : Int))), (7, .int (iI ((16 * t + 8 * sy + kk : Nat) : Int))), (8, .int (iI ((sp / Ra 1 : Nat) : Int))), (9, .int (iI ((g1 : Nat) : Int)))] → W p l e ({ frames := 3, cells := 0, slots := 0, locals := 69 } : Room) s m ([.ref (ad y), .int (iI ((t : Nat) : Int)), .int (iI ((a : Nat) : Int)), .int (iI ((sy : Nat) : Int)), .int (iI ((kk : Nat) : Int)), .int (iI ((c : Nat) : Int))] : List Value).toArray below meth cd H locs 0 0 Q (F0 m 166 ls []) := by
                    intro fu
                    induction fu with
                    | zero =>
                      intro g1 w16 H locs ls hfu hg1 hfr f_y f_Co f_Va f_Ra f_Sl f_Tl f_Ts f_Sc f_Pd f_Ha f_Ga f_by f_fw f_tk f_bd hP hS hl
                      exact absurd hfu (Nat.not_lt_zero _)
                    | succ fu ih17 =>
                      intro g1 w16 H locs ls hfu hg1 hfr f_y f_Co f_Va f_Ra f_Sl f_Tl f_Ts f_Sc f_Pd f_Ha f_Ga f_by f_fw f_tk f_bd hP hS hl
                      refine lv_iload hx hb dX7_sale_166 (lv_at hl 9 rfl) ?_
                      refine n_bipush hx hb dX7_sale_168 (by decide) ?_
                      refine n_icmp_ge (tgt := 234) hx hb dX7_sale_170 (by decide) (by omega) (by omega) (fun hc170 => ?_) (fun hc170 => ?_)
                      · skip
                        refine lv_aload_n hx hb dX7_sale_234 rfl (lv_at hl 0 rfl) ?_
                        refine n_get hx hb hts u_X7 hown hK hP (by omega) f_y rfl 4 (by decide) (nT_m wf_X7_19) rfl dX7_sale_235 ?_
                        refine n_iconst hx hb dX7_sale_238 ?_
                        refine lv_dup2_11 hx hb dX7_sale_239 rfl rfl ?_
                        refine n_iald hx hb hK hP 0 (by omega) f_Sl (by omega) (by omega) (by decide) dX7_sale_240 ?_
                        have ho18 := hSl 0 (by omega)
                        refine n_iconst hx hb dX7_sale_241 ?_
                        refine n_iadd hx hb dX7_sale_242 ?_
                        refine n_iast hx hb hK hJ hP hS 0 (by omega) f_Sl (by omega) (by omega) (by decide) dX7_sale_243 (fun w19 H locs f_Sl hne20 hP hS => ?_)
                        have f_y := (hne20 y (by omega)).trans f_y
                        have f_Co := (hne20 (y + 1) (by omega)).trans f_Co
                        have f_Va := (hne20 (y + 2) (by omega)).trans f_Va
                        have f_Ra := (hne20 (y + 3) (by omega)).trans f_Ra
                        have f_Tl := (hne20 (y + 9) (by omega)).trans f_Tl
                        have f_Ts := (hne20 (y + 10) (by omega)).trans f_Ts
                        have f_Sc := (hne20 (y + 11) (by omega)).trans f_Sc
                        have f_Pd := (hne20 (y + 12) (by omega)).trans f_Pd
                        have f_Ha := (hne20 (y + 14) (by omega)).trans f_Ha
                        have f_Ga := (hne20 (y + 15) (by omega)).trans f_Ga
                        have f_by := (hne20 (y + 19) (by omega)).trans f_by
                        have f_fw := (hne20 (y + 20) (by omega)).trans f_fw
                        have f_tk := (hne20 (y + 21) (by omega)).trans f_tk
                        have f_bd := (hne20 (y + 22) (by omega)).trans f_bd
                        have hfr : ∀ j, j ≠ (y + 4) → j ≠ (y + 10) → j ≠ (y + 11) → j ≠ (y + 12) → j ≠ (y + 14) → j ≠ (y + 15) → j ≠ (y + 19) → j ≠ (y + 20) → j ≠ (y + 21) → j ≠ (y + 22) → w19 j = w j := fun j a0 a1 a2 a3 a4 a5 a6 a7 a8 a9 => (hne20 j (by omega)).trans (hfr j a0 a1 a2 a3 a4 a5 a6 a7 a8 a9)
                        refine lv_aload_n hx hb dX7_sale_244 rfl (lv_at hl 0 rfl) ?_
                        refine n_get hx hb hts u_X7 hown hK hP (by omega) f_y rfl 10 (by decide) (nT_m wf_X7_37) rfl dX7_sale_245 ?_
                        refine lv_iload_n hx hb dX7_sale_248 rfl (lv_at hl 1 rfl) ?_
                        refine lv_dup2_11 hx hb dX7_sale_249 rfl rfl ?_
                        refine n_iald hx hb hK hP t (by omega) f_Ts (by omega) (by omega) (by decide) dX7_sale_250 ?_
                        have ho21 := hTs t (by omega)
                        refine n_iconst hx hb dX7_sale_251 ?_
                        refine n_iadd hx hb dX7_sale_252 ?_
                        refine n_iast hx hb hK hJ hP hS t (by omega) f_Ts (by omega) (by omega) (by decide) dX7_sale_253 (fun w22 H locs f_Ts hne23 hP hS => ?_)
                        have f_y := (hne23 y (by omega)).trans f_y
                        have f_Co := (hne23 (y + 1) (by omega)).trans f_Co
                        have f_Va := (hne23 (y + 2) (by omega)).trans f_Va
                        have f_Ra := (hne23 (y + 3) (by omega)).trans f_Ra
                        have f_Sl := (hne23 (y + 4) (by omega)).trans f_Sl
                        have f_Tl := (hne23 (y + 9) (by omega)).trans f_Tl
                        have f_Sc := (hne23 (y + 11) (by omega)).trans f_Sc
                        have f_Pd := (hne23 (y + 12) (by omega)).trans f_Pd
                        have f_Ha := (hne23 (y + 14) (by omega)).trans f_Ha
                        have f_Ga := (hne23 (y + 15) (by omega)).trans f_Ga
                        have f_by := (hne23 (y + 19) (by omega)).trans f_by
                        have f_fw := (hne23 (y + 20) (by omega)).trans f_fw
                        have f_tk := (hne23 (y + 21) (by omega)).trans f_tk
                        have f_bd := (hne23 (y + 22) (by omega)).trans f_bd
                        have hfr : ∀ j, j ≠ (y + 4) → j ≠ (y + 10) → j ≠ (y + 11) → j ≠ (y + 12) → j ≠ (y + 14) → j ≠ (y + 15) → j ≠ (y + 19) → j ≠ (y + 20) → j ≠ (y + 21) → j ≠ (y + 22) → w22 j = w j := fun j a0 a1 a2 a3 a4 a5 a6 a7 a8 a9 => (hne23 j (by omega)).trans (hfr j a0 a1 a2 a3 a4 a5 a6 a7 a8 a9)
                        refine lv_aload_n hx hb dX7_sale_254 rfl (lv_at hl 0 rfl) ?_
                        refine n_get hx hb hts u_X7 hown hK hP (by omega) f_y rfl 11 (by decide) (nT_m wf_X7_40) rfl dX7_sale_255 ?_
                        refine lv_iload_n hx hb dX7_sale_258 rfl (lv_at hl 1 rfl) ?_
                        refine lv_dup2_11 hx hb dX7_sale_259 rfl rfl ?_
                        refine n_lald hx hb hK hP t (by omega) f_Sc (by omega) (by omega) (by decide) dX7_sale_260 ?_
                        refine lv_iload hx hb dX7_sale_261 (lv_at hl 6 rfl) ?_
                        refine lv_aload_n hx hb dX7_sale_263 rfl (lv_at hl 0 rfl) ?_
                        refine n_get hx hb hts u_X7 hown hK hP (by omega) f_y rfl 3 (by decide) (nT_m wf_X7_16) rfl dX7_sale_264 ?_
                        refine n_iconst hx hb dX7_sale_267 ?_
                        refine n_iald hx hb hK hP 1 (by omega) f_Ra (by omega) (by omega) (by decide) dX7_sale_268 ?_
                        have ho24 := hRa 1 (by omega)
                        refine n_iremN hx hb dX7_sale_269 (by omega) (by omega) ?_
                        refine n_i2l hx hb dX7_sale_270 (by omega) ?_
                        refine n_ladd hx hb dX7_sale_271 ?_
                        refine n_last hx hb hK hJ hP hS t (by omega) f_Sc (by omega) (by omega) (by decide) dX7_sale_272 (fun w25 H locs f_Sc hne26 hP hS => ?_)
                        have f_y := (hne26 y (by omega)).trans f_y
                        have f_Co := (hne26 (y + 1) (by omega)).trans f_Co
                        have f_Va := (hne26 (y + 2) (by omega)).trans f_Va
                        have f_Ra := (hne26 (y + 3) (by omega)).trans f_Ra
                        have f_Sl := (hne26 (y + 4) (by omega)).trans f_Sl
                        have f_Tl := (hne26 (y + 9) (by omega)).trans f_Tl
                        have f_Ts := (hne26 (y + 10) (by omega)).trans f_Ts
                        have f_Pd := (hne26 (y + 12) (by omega)).trans f_Pd
                        have f_Ha := (hne26 (y + 14) (by omega)).trans f_Ha
                        have f_Ga := (hne26 (y + 15) (by omega)).trans f_Ga
                        have f_by := (hne26 (y + 19) (by omega)).trans f_by
                        have f_fw := (hne26 (y + 20) (by omega)).trans f_fw
                        have f_tk := (hne26 (y + 21) (by omega)).trans f_tk
                        have f_bd := (hne26 (y + 22) (by omega)).trans f_bd
                        have hfr : ∀ j, j ≠ (y + 4) → j ≠ (y + 10) → j ≠ (y + 11) → j ≠ (y + 12) → j ≠ (y + 14) → j ≠ (y + 15) → j ≠ (y + 19) → j ≠ (y + 20) → j ≠ (y + 21) → j ≠ (y + 22) → w25 j = w j := fun j a0 a1 a2 a3 a4 a5 a6 a7 a8 a9 => (hne26 j (by omega)).trans (hfr j a0 a1 a2 a3 a4 a5 a6 a7 a8 a9)
                        refine lv_aload_n hx hb dX7_sale_273 rfl (lv_at hl 0 rfl) ?_
                        refine n_get hx hb hts u_X7 hown hK hP (by omega) f_y rfl 12 (by decide) (nT_m wf_X7_44) rfl dX7_sale_274 ?_
                        refine lv_iload_n hx hb dX7_sale_277 rfl (lv_at hl 1 rfl) ?_
                        refine lv_dup2_11 hx hb dX7_sale_278 rfl rfl ?_
                        refine n_lald hx hb hK hP t (by omega) f_Pd (by omega) (by omega) (by decide) dX7_sale_279 ?_
                        refine lv_iload_n hx hb dX7_sale_280 rfl (lv_at hl 2 rfl) ?_
                        refine lv_aload_n hx hb dX7_sale_281 rfl (lv_at hl 0 rfl) ?_
                        refine n_get hx hb hts u_X7 hown hK hP (by omega) f_y rfl 3 (by decide) (nT_m wf_X7_16) rfl dX7_sale_282 ?_
                        refine n_iconst hx hb dX7_sale_285 ?_
                        refine n_iald hx hb hK hP 1 (by omega) f_Ra (by omega) (by omega) (by decide) dX7_sale_286 ?_
                        have ho27 := hRa 1 (by omega)
                        refine n_imul hx hb dX7_sale_287 ?_
                        refine n_i2l hx hb dX7_sale_288 (by omega) ?_
                        refine n_ladd hx hb dX7_sale_289 ?_
                        refine n_last hx hb hK hJ hP hS t (by omega) f_Pd (by omega) (by omega) (by decide) dX7_sale_290 (fun w28 H locs f_Pd hne29 hP hS => ?_)
                        have f_y := (hne29 y (by omega)).trans f_y
                        have f_Co := (hne29 (y + 1) (by omega)).trans f_Co
                        have f_Va := (hne29 (y + 2) (by omega)).trans f_Va
                        have f_Ra := (hne29 (y + 3) (by omega)).trans f_Ra
                        have f_Sl := (hne29 (y + 4) (by omega)).trans f_Sl
                        have f_Tl := (hne29 (y + 9) (by omega)).trans f_Tl
                        have f_Ts := (hne29 (y + 10) (by omega)).trans f_Ts
                        have f_Sc := (hne29 (y + 11) (by omega)).trans f_Sc
                        have f_Ha := (hne29 (y + 14) (by omega)).trans f_Ha
                        have f_Ga := (hne29 (y + 15) (by omega)).trans f_Ga
                        have f_by := (hne29 (y + 19) (by omega)).trans f_by
                        have f_fw := (hne29 (y + 20) (by omega)).trans f_fw
                        have f_tk := (hne29 (y + 21) (by omega)).trans f_tk
                        have f_bd := (hne29 (y + 22) (by omega)).trans f_bd
                        have hfr : ∀ j, j ≠ (y + 4) → j ≠ (y + 10) → j ≠ (y + 11) → j ≠ (y + 12) → j ≠ (y + 14) → j ≠ (y + 15) → j ≠ (y + 19) → j ≠ (y + 20) → j ≠ (y + 21) → j ≠ (y + 22) → w28 j = w j := fun j a0 a1 a2 a3 a4 a5 a6 a7 a8 a9 => (hne29 j (by omega)).trans (hfr j a0 a1 a2 a3 a4 a5 a6 a7 a8 a9)
                        refine lv_iload hx hb dX7_sale_291 (lv_at hl 8 rfl) ?_
                        refine n_iretP hQ hx hb hr hlocks hP hS dX7_sale_293 ?_
                        obtain rfl : g1 = 8 := by omega
                        refine ⟨hfr, B, bd1, Fw, tk1, ⟨_, hBe⟩, fun k hk9 => by rw [hb1 k hk9, hH1], hF, f_by, f_fw, f_tk, f_bd, fun h9 => absurd (hre.trans h9) hc146, fun _ => ⟨rfl, ⟨_, htk hc146⟩, f_Sl.trans (congrArg (aI G 4) (upZ Sl 0 (Sl 0 + 1) _ (by omega))), f_Ts.trans (congrArg (aI G 16) (upZ Ts t (Ts t + 1) _ (by omega))), f_Sc.trans (congrArg (aJ G 16) (upZ Sc t (Sc t + sp % Ra 1) _ (by omega))), f_Pd.trans (congrArg (aJ G 16) (upZ Pd t (Pd t + a * Ra 1) _ (by omega))), by rw [← hH1]; exact f_Ha, f_Ga⟩⟩
                      · skip
                        refine lv_iload hx hb dX7_sale_173 (lv_at hl 9 rfl) ?_
                        refine lv_aload_n hx hb dX7_sale_175 rfl (lv_at hl 0 rfl) ?_
                        refine n_get hx hb hts u_X7 hown hK hP (by omega) f_y rfl 1 (by decide) (nT_m wf_X7_7) rfl dX7_sale_176 ?_
                        refine n_iconst hx hb dX7_sale_179 ?_
                        refine n_iald hx hb hK hP 1 (by omega) f_Co (by omega) (by omega) (by decide) dX7_sale_180 ?_
                        have ho30 := hCo 1 (by omega)
                        refine n_icmp_ge (tgt := 194) hx hb dX7_sale_181 (by decide) (by omega) (by omega) (fun hc181 => ?_) (fun hc181 => ?_)
                        · skip
                          refine n_iconst hx hb dX7_sale_194 ?_
                          refine lv_istore (lv' := [(10, .int (iI 0)), (0, .ref (ad y)), (1, .int (iI ((t : Nat) : Int))), (2, .int (iI ((a : Nat) : Int))), (3, .int (iI ((sy : Nat) : Int))), (4, .int (iI ((kk : Nat) : Int))), (5, .int (iI ((c : Nat) : Int))), (6, .int (iI ((sp : Nat) : Int))), (7, .int (iI ((16 * t + 8 * sy + kk : Nat) : Int))), (8, .int (iI ((sp / Ra 1 : Nat) : Int))), (9, .int (iI ((g1 : Nat) : Int)))]) hx hb dX7_sale_195 hl (by decide) rfl (fun ls hl => ?_)
                          refine lv_aload_n hx hb dX7_sale_197 rfl (lv_at hl 1 rfl) ?_
                          refine n_get hx hb hts u_X7 hown hK hP (by omega) f_y rfl 14 (by decide) (nT_m wf_X7_50) rfl dX7_sale_198 ?_
                          refine lv_iload_n hx hb dX7_sale_201 rfl (lv_at hl 2 rfl) ?_
                          refine n_iconst hx hb dX7_sale_202 ?_
                          refine lv_iload hx hb dX7_sale_203 (lv_at hl 10 rfl) ?_
                          refine n_rdF (va_runS (As := [.int (iI ((t : Nat) : Int)), .int (iI 1), .int (iI ((g1 : Nat) : Int))]) (rest := [.ref (ad (y + 14))]) ⟨hx, hb, hml, hown, hts⟩ (c_X7_cell t 1 g1 (by omega) (by omega) (by omega)) (va_cwS 3 hts (nT_S wl_X7_134 wt_X7_cell wn_X7 wc_X7_cell) rfl rfl rfl (by decide +kernel) ⟨Nat.le_of_ble_eq_true rfl, Nat.le_of_ble_eq_true rfl⟩) preEq rfl rfl hl.1 rfl (lv_room (Nat.le_of_ble_eq_true rfl)) dX7_sale_205 ⟨Nat.zero_le _, Nat.zero_le _⟩) ?_
                          refine lv_dup2_11 hx hb dX7_sale_208 rfl rfl ?_
                          refine n_iald hx hb hK hP (16 * t + 8 + g1) (by omega) f_Ha (by omega) (by omega) (by decide) dX7_sale_209 ?_
                          have ho31 := trivial
                          refine lv_iload hx hb dX7_sale_210 (lv_at hl 0 rfl) ?_
                          refine n_isub hx hb dX7_sale_212 ?_
                          refine n_iast hx hb hK hJ hP hS (16 * t + 8 + g1) (by omega) f_Ha (by omega) (by omega) (by decide) dX7_sale_213 (fun w32 H locs f_Ha hne33 hP hS => ?_)
                          have f_y := (hne33 y (by omega)).trans f_y
                          have f_Co := (hne33 (y + 1) (by omega)).trans f_Co
                          have f_Va := (hne33 (y + 2) (by omega)).trans f_Va
                          have f_Ra := (hne33 (y + 3) (by omega)).trans f_Ra
                          have f_Sl := (hne33 (y + 4) (by omega)).trans f_Sl
                          have f_Tl := (hne33 (y + 9) (by omega)).trans f_Tl
                          have f_Ts := (hne33 (y + 10) (by omega)).trans f_Ts
                          have f_Sc := (hne33 (y + 11) (by omega)).trans f_Sc
                          have f_Pd := (hne33 (y + 12) (by omega)).trans f_Pd
                          have f_Ga := (hne33 (y + 15) (by omega)).trans f_Ga
                          have f_by := (hne33 (y + 19) (by omega)).trans f_by
                          have f_fw := (hne33 (y + 20) (by omega)).trans f_fw
                          have f_tk := (hne33 (y + 21) (by omega)).trans f_tk
                          have f_bd := (hne33 (y + 22) (by omega)).trans f_bd
                          have hfr : ∀ j, j ≠ (y + 4) → j ≠ (y + 10) → j ≠ (y + 11) → j ≠ (y + 12) → j ≠ (y + 14) → j ≠ (y + 15) → j ≠ (y + 19) → j ≠ (y + 20) → j ≠ (y + 21) → j ≠ (y + 22) → w32 j = w j := fun j a0 a1 a2 a3 a4 a5 a6 a7 a8 a9 => (hne33 j (by omega)).trans (hfr j a0 a1 a2 a3 a4 a5 a6 a7 a8 a9)
                          refine lv_aload_n hx hb dX7_sale_214 rfl (lv_at hl 1 rfl) ?_
                          refine n_get hx hb hts u_X7 hown hK hP (by omega) f_y rfl 15 (by decide) (nT_m wf_X7_53) rfl dX7_sale_215 ?_
                          refine n_bipush hx hb dX7_sale_218 (by decide) ?_
                          refine lv_iload_n hx hb dX7_sale_220 rfl (lv_at hl 2 rfl) ?_
                          refine n_imul hx hb dX7_sale_221 ?_
                          refine lv_iload hx hb dX7_sale_222 (lv_at hl 10 rfl) ?_
                          refine n_iadd hx hb dX7_sale_224 ?_
                          refine lv_iload hx hb dX7_sale_225 (lv_at hl 0 rfl) ?_
                          refine n_iast hx hb hK hJ hP hS ((8 * t) + g1) (by omega) f_Ga (by omega) (by omega) (by decide) dX7_sale_227 (fun w34 H locs f_Ga hne35 hP hS => ?_)
                          have f_y := (hne35 y (by omega)).trans f_y
                          have f_Co := (hne35 (y + 1) (by omega)).trans f_Co
                          have f_Va := (hne35 (y + 2) (by omega)).trans f_Va
                          have f_Ra := (hne35 (y + 3) (by omega)).trans f_Ra
                          have f_Sl := (hne35 (y + 4) (by omega)).trans f_Sl
                          have f_Tl := (hne35 (y + 9) (by omega)).trans f_Tl
                          have f_Ts := (hne35 (y + 10) (by omega)).trans f_Ts
                          have f_Sc := (hne35 (y + 11) (by omega)).trans f_Sc
                          have f_Pd := (hne35 (y + 12) (by omega)).trans f_Pd
                          have f_Ha := (hne35 (y + 14) (by omega)).trans f_Ha
                          have f_by := (hne35 (y + 19) (by omega)).trans f_by
                          have f_fw := (hne35 (y + 20) (by omega)).trans f_fw
                          have f_tk := (hne35 (y + 21) (by omega)).trans f_tk
                          have f_bd := (hne35 (y + 22) (by omega)).trans f_bd
                          have hfr : ∀ j, j ≠ (y + 4) → j ≠ (y + 10) → j ≠ (y + 11) → j ≠ (y + 12) → j ≠ (y + 14) → j ≠ (y + 15) → j ≠ (y + 19) → j ≠ (y + 20) → j ≠ (y + 21) → j ≠ (y + 22) → w34 j = w j := fun j a0 a1 a2 a3 a4 a5 a6 a7 a8 a9 => (hne35 j (by omega)).trans (hfr j a0 a1 a2 a3 a4 a5 a6 a7 a8 a9)
                          refine lv_iinc (v := iI (((g1 : Nat) : Int) + 1)) (lv' := [(9, .int (iI (((g1 : Nat) : Int) + 1))), (10, .int (iI 0)), (0, .ref (ad y)), (1, .int (iI ((t : Nat) : Int))), (2, .int (iI ((a : Nat) : Int))), (3, .int (iI ((sy : Nat) : Int))), (4, .int (iI ((kk : Nat) : Int))), (5, .int (iI ((c : Nat) : Int))), (6, .int (iI ((sp : Nat) : Int))), (7, .int (iI ((16 * t + 8 * sy + kk : Nat) : Int))), (8, .int (iI ((sp / Ra 1 : Nat) : Int)))]) hx hb dX7_sale_228 hl (k := 10) rfl (by first | exact iI_add _ _ | exact (iI_add _ _).trans (congrArg iI (by omega))) (by decide) rfl (fun ls hl => ?_)
                          refine lv_goto (tgt := 166) hx hb dX7_sale_231 (by decide) ?_
                          have hgq : (gvF (Co 1) tk1) g1 = 0 := if_neg (by omega)
                          exact ih17 (g1 + 1) _ _ _ _ (by omega) (by omega) hfr f_y f_Co f_Va f_Ra f_Sl f_Tl f_Ts f_Sc f_Pd (f_Ha.trans (congrArg (aI G 256) (sbS_s H1 (gvF (Co 1) tk1) (16 * t + 8) g1 _ (by rw [hgq] <;> omega) (by rw [hgq] <;> omega)))) (f_Ga.trans (congrArg (aI G 128) (cpS_s Ga (gvF (Co 1) tk1) (8 * t) g1 _ (by rw [hgq] <;> rfl)))) f_by f_fw f_tk f_bd hP hS (by first | exact lv_sub hl [2, 3, 4, 5, 6, 7, 8, 9, 10, 0] rfl | exact lv_cast (lv_sub (l' := [(0, .ref (ad y)), (1, .int (iI ((t : Nat) : Int))), (2, .int (iI ((a : Nat) : Int))), (3, .int (iI ((sy : Nat) : Int))), (4, .int (iI ((kk : Nat) : Int))), (5, .int (iI ((c : Nat) : Int))), (6, .int (iI ((sp : Nat) : Int))), (7, .int (iI ((16 * t + 8 * sy + kk : Nat) : Int))), (8, .int (iI ((sp / Ra 1 : Nat) : Int))), (9, .int (iI (((g1 : Nat) : Int) + 1)))]) hl [2, 3, 4, 5, 6, 7, 8, 9, 10, 0] rfl) (lc_s (lc_s (lc_s (lc_s (lc_s (lc_s (lc_s (lc_s (lc_s (lc_i (show ((((g1 : Nat) : Int) + 1) : Int) = (((g1 + 1) : Nat) : Int) by omega) rfl)))))))))))
                        · skip
                          refine lv_aload_n hx hb dX7_sale_184 rfl (lv_at hl 0 rfl) ?_
                          refine n_get hx hb hts u_X7 hown hK hP (by omega) f_y rfl 21 (by decide) (nT_m wf_X7_71) rfl dX7_sale_185 ?_
                          refine lv_iload hx hb dX7_sale_188 (lv_at hl 9 rfl) ?_
                          refine n_iald hx hb hK hP g1 (by omega) f_tk (by omega) (by omega) (by decide) dX7_sale_190 ?_
                          refine lv_goto (tgt := 195) hx hb dX7_sale_191 (by decide) ?_
                          refine lv_istore (lv' := [(10, .int (iI (tk1 g1 : Int))), (0, .ref (ad y)), (1, .int (iI ((t : Nat) : Int))), (2, .int (iI ((a : Nat) : Int))), (3, .int (iI ((sy : Nat) : Int))), (4, .int (iI ((kk : Nat) : Int))), (5, .int (iI ((c : Nat) : Int))), (6, .int (iI ((sp : Nat) : Int))), (7, .int (iI ((16 * t + 8 * sy + kk : Nat) : Int))), (8, .int (iI ((sp / Ra 1 : Nat) : Int))), (9, .int (iI ((g1 : Nat) : Int)))]) hx hb dX7_sale_195 hl (by decide) rfl (fun ls hl => ?_)
                          refine lv_aload_n hx hb dX7_sale_197 rfl (lv_at hl 1 rfl) ?_
                          refine n_get hx hb hts u_X7 hown hK hP (by omega) f_y rfl 14 (by decide) (nT_m wf_X7_50) rfl dX7_sale_198 ?_
                          refine lv_iload_n hx hb dX7_sale_201 rfl (lv_at hl 2 rfl) ?_
                          refine n_iconst hx hb dX7_sale_202 ?_
                          refine lv_iload hx hb dX7_sale_203 (lv_at hl 10 rfl) ?_
                          refine n_rdF (va_runS (As := [.int (iI ((t : Nat) : Int)), .int (iI 1), .int (iI ((g1 : Nat) : Int))]) (rest := [.ref (ad (y + 14))]) ⟨hx, hb, hml, hown, hts⟩ (c_X7_cell t 1 g1 (by omega) (by omega) (by omega)) (va_cwS 3 hts (nT_S wl_X7_134 wt_X7_cell wn_X7 wc_X7_cell) rfl rfl rfl (by decide +kernel) ⟨Nat.le_of_ble_eq_true rfl, Nat.le_of_ble_eq_true rfl⟩) preEq rfl rfl hl.1 rfl (lv_room (Nat.le_of_ble_eq_true rfl)) dX7_sale_205 ⟨Nat.zero_le _, Nat.zero_le _⟩) ?_
                          refine lv_dup2_11 hx hb dX7_sale_208 rfl rfl ?_
                          refine n_iald hx hb hK hP (16 * t + 8 + g1) (by omega) f_Ha (by omega) (by omega) (by decide) dX7_sale_209 ?_
                          have ho36 := trivial
                          refine lv_iload hx hb dX7_sale_210 (lv_at hl 0 rfl) ?_
                          refine n_isub hx hb dX7_sale_212 ?_
                          refine n_iast hx hb hK hJ hP hS (16 * t + 8 + g1) (by omega) f_Ha (by omega) (by omega) (by decide) dX7_sale_213 (fun w37 H locs f_Ha hne38 hP hS => ?_)
                          have f_y := (hne38 y (by omega)).trans f_y
                          have f_Co := (hne38 (y + 1) (by omega)).trans f_Co
                          have f_Va := (hne38 (y + 2) (by omega)).trans f_Va
                          have f_Ra := (hne38 (y + 3) (by omega)).trans f_Ra
                          have f_Sl := (hne38 (y + 4) (by omega)).trans f_Sl
                          have f_Tl := (hne38 (y + 9) (by omega)).trans f_Tl
                          have f_Ts := (hne38 (y + 10) (by omega)).trans f_Ts
                          have f_Sc := (hne38 (y + 11) (by omega)).trans f_Sc
                          have f_Pd := (hne38 (y + 12) (by omega)).trans f_Pd
                          have f_Ga := (hne38 (y + 15) (by omega)).trans f_Ga
                          have f_by := (hne38 (y + 19) (by omega)).trans f_by
                          have f_fw := (hne38 (y + 20) (by omega)).trans f_fw
                          have f_tk := (hne38 (y + 21) (by omega)).trans f_tk
                          have f_bd := (hne38 (y + 22) (by omega)).trans f_bd
                          have hfr : ∀ j, j ≠ (y + 4) → j ≠ (y + 10) → j ≠ (y + 11) → j ≠ (y + 12) → j ≠ (y + 14) → j ≠ (y + 15) → j ≠ (y + 19) → j ≠ (y + 20) → j ≠ (y + 21) → j ≠ (y + 22) → w37 j = w j := fun j a0 a1 a2 a3 a4 a5 a6 a7 a8 a9 => (hne38 j (by omega)).trans (hfr j a0 a1 a2 a3 a4 a5 a6 a7 a8 a9)
                          refine lv_aload_n hx hb dX7_sale_214 rfl (lv_at hl 1 rfl) ?_
                          refine n_get hx hb hts u_X7 hown hK hP (by omega) f_y rfl 15 (by decide) (nT_m wf_X7_53) rfl dX7_sale_215 ?_
                          refine n_bipush hx hb dX7_sale_218 (by decide) ?_
                          refine lv_iload_n hx hb dX7_sale_220 rfl (lv_at hl 2 rfl) ?_
                          refine n_imul hx hb dX7_sale_221 ?_
                          refine lv_iload hx hb dX7_sale_222 (lv_at hl 10 rfl) ?_
                          refine n_iadd hx hb dX7_sale_224 ?_
                          refine lv_iload hx hb dX7_sale_225 (lv_at hl 0 rfl) ?_
                          refine n_iast hx hb hK hJ hP hS ((8 * t) + g1) (by omega) f_Ga (by omega) (by omega) (by decide) dX7_sale_227 (fun w39 H locs f_Ga hne40 hP hS => ?_)
                          have f_y := (hne40 y (by omega)).trans f_y
                          have f_Co := (hne40 (y + 1) (by omega)).trans f_Co
                          have f_Va := (hne40 (y + 2) (by omega)).trans f_Va
                          have f_Ra := (hne40 (y + 3) (by omega)).trans f_Ra
                          have f_Sl := (hne40 (y + 4) (by omega)).trans f_Sl
                          have f_Tl := (hne40 (y + 9) (by omega)).trans f_Tl
                          have f_Ts := (hne40 (y + 10) (by omega)).trans f_Ts
                          have f_Sc := (hne40 (y + 11) (by omega)).trans f_Sc
                          have f_Pd := (hne40 (y + 12) (by omega)).trans f_Pd
                          have f_Ha := (hne40 (y + 14) (by omega)).trans f_Ha
                          have f_by := (hne40 (y + 19) (by omega)).trans f_by
                          have f_fw := (hne40 (y + 20) (by omega)).trans f_fw
                          have f_tk := (hne40 (y + 21) (by omega)).trans f_tk
                          have f_bd := (hne40 (y + 22) (by omega)).trans f_bd
                          have hfr : ∀ j, j ≠ (y + 4) → j ≠ (y + 10) → j ≠ (y + 11) → j ≠ (y + 12) → j ≠ (y + 14) → j ≠ (y + 15) → j ≠ (y + 19) → j ≠ (y + 20) → j ≠ (y + 21) → j ≠ (y + 22) → w39 j = w j := fun j a0 a1 a2 a3 a4 a5 a6 a7 a8 a9 => (hne40 j (by omega)).trans (hfr j a0 a1 a2 a3 a4 a5 a6 a7 a8 a9)
                          refine lv_iinc (v := iI (((g1 : Nat) : Int) + 1)) (lv' := [(9, .int (iI (((g1 : Nat) : Int) + 1))), (10, .int (iI (tk1 g1 : Int))), (0, .ref (ad y)), (1, .int (iI ((t : Nat) : Int))), (2, .int (iI ((a : Nat) : Int))), (3, .int (iI ((sy : Nat) : Int))), (4, .int (iI ((kk : Nat) : Int))), (5, .int (iI ((c : Nat) : Int))), (6, .int (iI ((sp : Nat) : Int))), (7, .int (iI ((16 * t + 8 * sy + kk : Nat) : Int))), (8, .int (iI ((sp / Ra 1 : Nat) : Int)))]) hx hb dX7_sale_228 hl (k := 10) rfl (by first | exact iI_add _ _ | exact (iI_add _ _).trans (congrArg iI (by omega))) (by decide) rfl (fun ls hl => ?_)
                          refine lv_goto (tgt := 166) hx hb dX7_sale_231 (by decide) ?_
                          have hgq : (gvF (Co 1) tk1) g1 = tk1 g1 := if_pos (by omega)
                          have htg := htl g1 (by omega)
                          exact ih17 (g1 + 1) _ _ _ _ (by omega) (by omega) hfr f_y f_Co f_Va f_Ra f_Sl f_Tl f_Ts f_Sc f_Pd (f_Ha.trans (congrArg (aI G 256) (sbS_s H1 (gvF (Co 1) tk1) (16 * t + 8) g1 _ (by rw [hgq] <;> omega) (by rw [hgq] <;> omega)))) (f_Ga.trans (congrArg (aI G 128) (cpS_s Ga (gvF (Co 1) tk1) (8 * t) g1 _ (by rw [hgq] <;> rfl)))) f_by f_fw f_tk f_bd hP hS (by first | exact lv_sub hl [2, 3, 4, 5, 6, 7, 8, 9, 10, 0] rfl | exact lv_cast (lv_sub (l' := [(0, .ref (ad y)), (1, .int (iI ((t : Nat) : Int))), (2, .int (iI ((a : Nat) : Int))), (3, .int (iI ((sy : Nat) : Int))), (4, .int (iI ((kk : Nat) : Int))), (5, .int (iI ((c : Nat) : Int))), (6, .int (iI ((sp : Nat) : Int))), (7, .int (iI ((16 * t + 8 * sy + kk : Nat) : Int))), (8, .int (iI ((sp / Ra 1 : Nat) : Int))), (9, .int (iI (((g1 : Nat) : Int) + 1)))]) hl [2, 3, 4, 5, 6, 7, 8, 9, 10, 0] rfl) (lc_s (lc_s (lc_s (lc_s (lc_s (lc_s (lc_s (lc_s (lc_s (lc_i (show ((((g1 : Nat) : Int) + 1) : Int) = (((g1 + 1) : Nat) : Int) by omega) rfl)))))))))))
                  exact lp15 (8 - 0 + 1) 0 _ _ _ _ (Nat.lt_succ_self _) (by omega) hfr f_y f_Co f_Va f_Ra f_Sl f_Tl f_Ts f_Sc f_Pd (f_Ha.trans (by rw [sbS_0])) (f_Ga.trans (by rw [cpS_0])) f_by f_fw f_tk f_bd hP hS (by first | exact lv_sub hl [1, 2, 3, 4, 5, 6, 7, 8, 9, 0] rfl | exact lv_cast (lv_sub (l' := [(0, .ref (ad y)), (1, .int (iI ((t : Nat) : Int))), (2, .int (iI ((a : Nat) : Int))), (3, .int (iI ((sy : Nat) : Int))), (4, .int (iI ((kk : Nat) : Int))), (5, .int (iI ((c : Nat) : Int))), (6, .int (iI ((sp : Nat) : Int))), (7, .int (iI ((16 * t + 8 * sy + kk : Nat) : Int))), (8, .int (iI ((sp / Ra 1 : Nat) : Int))), (9, .int (iI 0))]) hl [1, 2, 3, 4, 5, 6, 7, 8, 9, 0] rfl) (lc_s (lc_s (lc_s (lc_s (lc_s (lc_s (lc_s (lc_s (lc_s (lc_i (show (0 : Int) = ((0 : Nat) : Int) by omega) rfl)))))))))))
                · skip
                  refine n_iconst hx hb dX7_sale_149 ?_
                  refine n_iretP hQ hx hb hr hlocks hP hS dX7_sale_150 ?_
                  refine ⟨hfr, B, bd1, Fw, tk1, ⟨_, hBe⟩, fun k hk9 => by rw [hb1 k hk9, hH1], hF, f_by, f_fw, f_tk, f_bd, fun _ => ⟨rfl, f_Sl, f_Ts, f_Sc, f_Pd, f_Ha, f_Ga⟩, fun h9 => absurd (hre.symm.trans hc146) h9⟩
              · skip
                refine lv_aload_n hx hb dX7_sale_94 rfl (lv_at hl 0 rfl) ?_
                refine n_get hx hb hts u_X7 hown hK hP (by omega) f_y rfl 22 (by decide) (nT_m wf_X7_74) rfl dX7_sale_95 ?_
                refine lv_iload hx hb dX7_sale_98 (lv_at hl 9 rfl) ?_
                refine lv_aload_n hx hb dX7_sale_100 rfl (lv_at hl 0 rfl) ?_
                refine n_get hx hb hts u_X7 hown hK hP (by omega) f_y rfl 14 (by decide) (nT_m wf_X7_50) rfl dX7_sale_101 ?_
                refine lv_iload_n hx hb dX7_sale_104 rfl (lv_at hl 1 rfl) ?_
                refine n_iconst hx hb dX7_sale_105 ?_
                refine lv_iload hx hb dX7_sale_106 (lv_at hl 9 rfl) ?_
                refine n_rdF (va_runS (As := [.int (iI ((t : Nat) : Int)), .int (iI 1), .int (iI ((q : Nat) : Int))]) (rest := [.ref (ad (y + 14)), .int (iI ((q : Nat) : Int)), .ref (ad (y + 22))]) ⟨hx, hb, hml, hown, hts⟩ (c_X7_cell t 1 q (by omega) (by omega) (by omega)) (va_cwS 3 hts (nT_S wl_X7_134 wt_X7_cell wn_X7 wc_X7_cell) rfl rfl rfl (by decide +kernel) ⟨Nat.le_of_ble_eq_true rfl, Nat.le_of_ble_eq_true rfl⟩) preEq rfl rfl hl.1 rfl (lv_room (Nat.le_of_ble_eq_true rfl)) dX7_sale_108 ⟨Nat.zero_le _, Nat.zero_le _⟩) ?_
                refine n_iald hx hb hK hP (16 * t + 8 * 1 + q) (by omega) f_Ha (by omega) (by omega) (by decide) dX7_sale_111 ?_
                have ho41 := hHa (16 * t + 8 * 1 + q) (by omega)
                refine lv_iload_n hx hb dX7_sale_112 rfl (lv_at hl 3 rfl) ?_
                refine n_iconst hx hb dX7_sale_113 ?_
                refine n_icmp_ne (tgt := 129) hx hb dX7_sale_114 (by decide) (by omega) (by omega) (fun hc114 => ?_) (fun hc114 => ?_)
                · skip
                  refine n_iconst hx hb dX7_sale_129 ?_
                  refine n_iadd hx hb dX7_sale_130 ?_
                  refine n_iast hx hb hK hJ hP hS q (by omega) f_bd (by omega) (by omega) (by decide) dX7_sale_131 (fun w42 H locs f_bd hne43 hP hS => ?_)
                  have f_y := (hne43 y (by omega)).trans f_y
                  have f_Co := (hne43 (y + 1) (by omega)).trans f_Co
                  have f_Va := (hne43 (y + 2) (by omega)).trans f_Va
                  have f_Ra := (hne43 (y + 3) (by omega)).trans f_Ra
                  have f_Sl := (hne43 (y + 4) (by omega)).trans f_Sl
                  have f_Tl := (hne43 (y + 9) (by omega)).trans f_Tl
                  have f_Ts := (hne43 (y + 10) (by omega)).trans f_Ts
                  have f_Sc := (hne43 (y + 11) (by omega)).trans f_Sc
                  have f_Pd := (hne43 (y + 12) (by omega)).trans f_Pd
                  have f_Ha := (hne43 (y + 14) (by omega)).trans f_Ha
                  have f_Ga := (hne43 (y + 15) (by omega)).trans f_Ga
                  have f_by := (hne43 (y + 19) (by omega)).trans f_by
                  have f_fw := (hne43 (y + 20) (by omega)).trans f_fw
                  have f_tk := (hne43 (y + 21) (by omega)).trans f_tk
                  have hfr : ∀ j, j ≠ (y + 4) → j ≠ (y + 10) → j ≠ (y + 11) → j ≠ (y + 12) → j ≠ (y + 14) → j ≠ (y + 15) → j ≠ (y + 19) → j ≠ (y + 20) → j ≠ (y + 21) → j ≠ (y + 22) → w42 j = w j := fun j a0 a1 a2 a3 a4 a5 a6 a7 a8 a9 => (hne43 j (by omega)).trans (hfr j a0 a1 a2 a3 a4 a5 a6 a7 a8 a9)
                  refine lv_iinc (v := iI (((q : Nat) : Int) + 1)) (lv' := [(9, .int (iI (((q : Nat) : Int) + 1))), (0, .ref (ad y)), (1, .int (iI ((t : Nat) : Int))), (2, .int (iI ((a : Nat) : Int))), (3, .int (iI ((sy : Nat) : Int))), (4, .int (iI ((kk : Nat) : Int))), (5, .int (iI ((c : Nat) : Int))), (6, .int (iI ((sp : Nat) : Int))), (7, .int (iI ((16 * t + 8 * sy + kk : Nat) : Int))), (8, .int (iI ((sp / Ra 1 : Nat) : Int)))]) hx hb dX7_sale_132 hl (k := 9) rfl (by first | exact iI_add _ _ | exact (iI_add _ _).trans (congrArg iI (by omega))) (by decide) rfl (fun ls hl => ?_)
                  refine lv_goto (tgt := 87) hx hb dX7_sale_135 (by decide) ?_
                  exact ih7 (q + 1) _ _ _ _ (by omega) (by omega) hfr f_y f_Co f_Va f_Ra f_Sl f_Tl f_Ts f_Sc f_Pd f_Ha f_Ga f_by f_fw f_tk (f_bd.trans (congrArg (aI G 8) (bnF_s bd H1 (16 * t + 8) q _ (by rw [hH1, va_up_ne _ _ (by omega), show 16 * t + 8 * 1 + q = 16 * t + 8 + q by omega]; omega)))) hP hS (by first | exact lv_sub hl [1, 2, 3, 4, 5, 6, 7, 8, 9, 0] rfl | exact lv_cast (lv_sub (l' := [(0, .ref (ad y)), (1, .int (iI ((t : Nat) : Int))), (2, .int (iI ((a : Nat) : Int))), (3, .int (iI ((sy : Nat) : Int))), (4, .int (iI ((kk : Nat) : Int))), (5, .int (iI ((c : Nat) : Int))), (6, .int (iI ((sp : Nat) : Int))), (7, .int (iI ((16 * t + 8 * sy + kk : Nat) : Int))), (8, .int (iI ((sp / Ra 1 : Nat) : Int))), (9, .int (iI (((q : Nat) : Int) + 1)))]) hl [1, 2, 3, 4, 5, 6, 7, 8, 9, 0] rfl) (lc_s (lc_s (lc_s (lc_s (lc_s (lc_s (lc_s (lc_s (lc_s (lc_i (show ((((q : Nat) : Int) + 1) : Int) = (((q + 1) : Nat) : Int) by omega) rfl)))))))))))
                · skip
                  refine lv_iload hx hb dX7_sale_117 (lv_at hl 9 rfl) ?_
                  refine lv_iload hx hb dX7_sale_119 (lv_at hl 4 rfl) ?_
                  refine n_icmp_ne (tgt := 129) hx hb dX7_sale_121 (by decide) (by omega) (by omega) (fun hc121 => ?_) (fun hc121 => ?_)
                  · skip
                    refine n_iconst hx hb dX7_sale_129 ?_
                    refine n_iadd hx hb dX7_sale_130 ?_
                    refine n_iast hx hb hK hJ hP hS q (by omega) f_bd (by omega) (by omega) (by decide) dX7_sale_131 (fun w44 H locs f_bd hne45 hP hS => ?_)
                    have f_y := (hne45 y (by omega)).trans f_y
                    have f_Co := (hne45 (y + 1) (by omega)).trans f_Co
                    have f_Va := (hne45 (y + 2) (by omega)).trans f_Va
                    have f_Ra := (hne45 (y + 3) (by omega)).trans f_Ra
                    have f_Sl := (hne45 (y + 4) (by omega)).trans f_Sl
                    have f_Tl := (hne45 (y + 9) (by omega)).trans f_Tl
                    have f_Ts := (hne45 (y + 10) (by omega)).trans f_Ts
                    have f_Sc := (hne45 (y + 11) (by omega)).trans f_Sc
                    have f_Pd := (hne45 (y + 12) (by omega)).trans f_Pd
                    have f_Ha := (hne45 (y + 14) (by omega)).trans f_Ha
                    have f_Ga := (hne45 (y + 15) (by omega)).trans f_Ga
                    have f_by := (hne45 (y + 19) (by omega)).trans f_by
                    have f_fw := (hne45 (y + 20) (by omega)).trans f_fw
                    have f_tk := (hne45 (y + 21) (by omega)).trans f_tk
                    have hfr : ∀ j, j ≠ (y + 4) → j ≠ (y + 10) → j ≠ (y + 11) → j ≠ (y + 12) → j ≠ (y + 14) → j ≠ (y + 15) → j ≠ (y + 19) → j ≠ (y + 20) → j ≠ (y + 21) → j ≠ (y + 22) → w44 j = w j := fun j a0 a1 a2 a3 a4 a5 a6 a7 a8 a9 => (hne45 j (by omega)).trans (hfr j a0 a1 a2 a3 a4 a5 a6 a7 a8 a9)
                    refine lv_iinc (v := iI (((q : Nat) : Int) + 1)) (lv' := [(9, .int (iI (((q : Nat) : Int) + 1))), (0, .ref (ad y)), (1, .int (iI ((t : Nat) : Int))), (2, .int (iI ((a : Nat) : Int))), (3, .int (iI ((sy : Nat) : Int))), (4, .int (iI ((kk : Nat) : Int))), (5, .int (iI ((c : Nat) : Int))), (6, .int (iI ((sp : Nat) : Int))), (7, .int (iI ((16 * t + 8 * sy + kk : Nat) : Int))), (8, .int (iI ((sp / Ra 1 : Nat) : Int)))]) hx hb dX7_sale_132 hl (k := 9) rfl (by first | exact iI_add _ _ | exact (iI_add _ _).trans (congrArg iI (by omega))) (by decide) rfl (fun ls hl => ?_)
                    refine lv_goto (tgt := 87) hx hb dX7_sale_135 (by decide) ?_
                    exact ih7 (q + 1) _ _ _ _ (by omega) (by omega) hfr f_y f_Co f_Va f_Ra f_Sl f_Tl f_Ts f_Sc f_Pd f_Ha f_Ga f_by f_fw f_tk (f_bd.trans (congrArg (aI G 8) (bnF_s bd H1 (16 * t + 8) q _ (by rw [hH1, va_up_ne _ _ (by omega), show 16 * t + 8 * 1 + q = 16 * t + 8 + q by omega]; omega)))) hP hS (by first | exact lv_sub hl [1, 2, 3, 4, 5, 6, 7, 8, 9, 0] rfl | exact lv_cast (lv_sub (l' := [(0, .ref (ad y)), (1, .int (iI ((t : Nat) : Int))), (2, .int (iI ((a : Nat) : Int))), (3, .int (iI ((sy : Nat) : Int))), (4, .int (iI ((kk : Nat) : Int))), (5, .int (iI ((c : Nat) : Int))), (6, .int (iI ((sp : Nat) : Int))), (7, .int (iI ((16 * t + 8 * sy + kk : Nat) : Int))), (8, .int (iI ((sp / Ra 1 : Nat) : Int))), (9, .int (iI (((q : Nat) : Int) + 1)))]) hl [1, 2, 3, 4, 5, 6, 7, 8, 9, 0] rfl) (lc_s (lc_s (lc_s (lc_s (lc_s (lc_s (lc_s (lc_s (lc_s (lc_i (show ((((q : Nat) : Int) + 1) : Int) = (((q + 1) : Nat) : Int) by omega) rfl)))))))))))
                  · skip
                    refine lv_iload hx hb dX7_sale_124 (lv_at hl 5 rfl) ?_
                    refine lv_goto (tgt := 130) hx hb dX7_sale_126 (by decide) ?_
                    refine n_iadd hx hb dX7_sale_130 ?_
                    refine n_iast hx hb hK hJ hP hS q (by omega) f_bd (by omega) (by omega) (by decide) dX7_sale_131 (fun w46 H locs f_bd hne47 hP hS => ?_)
                    have f_y := (hne47 y (by omega)).trans f_y
                    have f_Co := (hne47 (y + 1) (by omega)).trans f_Co
                    have f_Va := (hne47 (y + 2) (by omega)).trans f_Va
                    have f_Ra := (hne47 (y + 3) (by omega)).trans f_Ra
                    have f_Sl := (hne47 (y + 4) (by omega)).trans f_Sl
                    have f_Tl := (hne47 (y + 9) (by omega)).trans f_Tl
                    have f_Ts := (hne47 (y + 10) (by omega)).trans f_Ts
                    have f_Sc := (hne47 (y + 11) (by omega)).trans f_Sc
                    have f_Pd := (hne47 (y + 12) (by omega)).trans f_Pd
                    have f_Ha := (hne47 (y + 14) (by omega)).trans f_Ha
                    have f_Ga := (hne47 (y + 15) (by omega)).trans f_Ga
                    have f_by := (hne47 (y + 19) (by omega)).trans f_by
                    have f_fw := (hne47 (y + 20) (by omega)).trans f_fw
                    have f_tk := (hne47 (y + 21) (by omega)).trans f_tk
                    have hfr : ∀ j, j ≠ (y + 4) → j ≠ (y + 10) → j ≠ (y + 11) → j ≠ (y + 12) → j ≠ (y + 14) → j ≠ (y + 15) → j ≠ (y + 19) → j ≠ (y + 20) → j ≠ (y + 21) → j ≠ (y + 22) → w46 j = w j := fun j a0 a1 a2 a3 a4 a5 a6 a7 a8 a9 => (hne47 j (by omega)).trans (hfr j a0 a1 a2 a3 a4 a5 a6 a7 a8 a9)
                    refine lv_iinc (v := iI (((q : Nat) : Int) + 1)) (lv' := [(9, .int (iI (((q : Nat) : Int) + 1))), (0, .ref (ad y)), (1, .int (iI ((t : Nat) : Int))), (2, .int (iI ((a : Nat) : Int))), (3, .int (iI ((sy : Nat) : Int))), (4, .int (iI ((kk : Nat) : Int))), (5, .int (iI ((c : Nat) : Int))), (6, .int (iI ((sp : Nat) : Int))), (7, .int (iI ((16 * t + 8 * sy + kk : Nat) : Int))), (8, .int (iI ((sp / Ra 1 : Nat) : Int)))]) hx hb dX7_sale_132 hl (k := 9) rfl (by first | exact iI_add _ _ | exact (iI_add _ _).trans (congrArg iI (by omega))) (by decide) rfl (fun ls hl => ?_)
                    refine lv_goto (tgt := 87) hx hb dX7_sale_135 (by decide) ?_
                    exact ih7 (q + 1) _ _ _ _ (by omega) (by omega) hfr f_y f_Co f_Va f_Ra f_Sl f_Tl f_Ts f_Sc f_Pd f_Ha f_Ga f_by f_fw f_tk (f_bd.trans (congrArg (aI G 8) (bnF_s bd H1 (16 * t + 8) q _ (by rw [hH1, show 16 * t + 8 * 1 + q = (16 * t + 8 * sy + kk) by omega]; (try rw [show 16 * t + 8 + q = (16 * t + 8 * sy + kk) by omega]); rw [va_up_self]; omega)))) hP hS (by first | exact lv_sub hl [1, 2, 3, 4, 5, 6, 7, 8, 9, 0] rfl | exact lv_cast (lv_sub (l' := [(0, .ref (ad y)), (1, .int (iI ((t : Nat) : Int))), (2, .int (iI ((a : Nat) : Int))), (3, .int (iI ((sy : Nat) : Int))), (4, .int (iI ((kk : Nat) : Int))), (5, .int (iI ((c : Nat) : Int))), (6, .int (iI ((sp : Nat) : Int))), (7, .int (iI ((16 * t + 8 * sy + kk : Nat) : Int))), (8, .int (iI ((sp / Ra 1 : Nat) : Int))), (9, .int (iI (((q : Nat) : Int) + 1)))]) hl [1, 2, 3, 4, 5, 6, 7, 8, 9, 0] rfl) (lc_s (lc_s (lc_s (lc_s (lc_s (lc_s (lc_s (lc_s (lc_s (lc_i (show ((((q : Nat) : Int) + 1) : Int) = (((q + 1) : Nat) : Int) by omega) rfl)))))))))))
          exact lp5 (8 - 0 + 1) 0 _ _ _ _ (Nat.lt_succ_self _) (by omega) hfr f_y f_Co f_Va f_Ra f_Sl f_Tl f_Ts f_Sc f_Pd f_Ha f_Ga f_by f_fw f_tk (f_bd.trans (by rw [bnF_0])) hP hS (by first | exact lv_sub hl [4, 5, 6, 7, 8, 9, 3, 2, 1, 0] rfl | exact lv_cast (lv_sub (l' := [(0, .ref (ad y)), (1, .int (iI ((t : Nat) : Int))), (2, .int (iI ((a : Nat) : Int))), (3, .int (iI ((sy : Nat) : Int))), (4, .int (iI ((kk : Nat) : Int))), (5, .int (iI ((c : Nat) : Int))), (6, .int (iI ((sp : Nat) : Int))), (7, .int (iI ((16 * t + 8 * sy + kk : Nat) : Int))), (8, .int (iI ((sp / Ra 1 : Nat) : Int))), (9, .int (iI 0))]) hl [4, 5, 6, 7, 8, 9, 3, 2, 1, 0] rfl) (lc_s (lc_s (lc_s (lc_s (lc_s (lc_s (lc_s (lc_s (lc_s (lc_i (show (0 : Int) = ((0 : Nat) : Int) by omega) rfl)))))))))))
        · skip
          omega
  · skip
    exact absurd ⟨by omega, by omega, by omega, by omega, by rw [Int.toNat_natCast]; omega⟩ hc16
set_option maxHeartbeats 4000000 in
set_option maxRecDepth 100000 in
theorem c_X7_findWanted {l : Launch} {G : nG} {N : Nat} {ad : Nat → Nat} {w : Nat → va_E} {sz : Nat} (y : Nat) (Co Va Ra Ex Xs : Nat → Nat) (t : Nat) (b9 bd tk0 : Nat → Nat) (Fw0 : Nat → Int) (lst : Nat → Int) (tkq : Nat → Nat → Int) (po wa : Nat → Int) (hN : y + 26 < N) (hCo : ∀ k, k < 2 → Co k ≤ 8) (hVa : ∀ k, k < 16 → Va k ≤ 1000) (hRa : ∀ k, k < 2 → 1 ≤ Ra k ∧ Ra k ≤ 100) (hEx : ∀ k, k < 4 → Ex k ≤ 20) (ht : t < 4) (hex : ∀ q, q < Ex t → (1 ≤ Xs (80 * t + 4 * q) ∧ Xs (80 * t + 4 * q) ≤ 2000) ∧ (1 ≤ Xs (80 * t + 4 * q + 3) ∧ Xs (80 * t + 4 * q + 3) ≤ 50) ∧ Xs (80 * t + 4 * q + 1) < 2 ∧ Xs (80 * t + 4 * q + 2) < Co (Xs (80 * t + 4 * q + 1))) (hV1 : ∀ k, k < Co 1 → 1 ≤ Va (8 * 1 + k)) (hfw : fwOK (fun q9 => Va (8 * 1 + q9)) (Co 1) lst tkq) (htr : ∀ sm k, sm ≤ 2000 → 0 ≤ tkq sm k ∧ tkq sm k ≤ 2000) (f_y : w y = .inr (7, [.int (iI 0), .ref (ad (y + 1)), .ref (ad (y + 2)), .ref (ad (y + 3)), .ref (ad (y + 4)), .ref (ad (y + 5)), .ref (ad (y + 6)), .ref (ad (y + 7)), .ref (ad (y + 8)), .ref (ad (y + 9)), .ref (ad (y + 10)), .ref (ad (y + 11)), .ref (ad (y + 12)), .ref (ad (y + 13)), .ref (ad (y + 14)), .ref (ad (y + 15)), .ref (ad (y + 16)), .ref (ad (y + 17)), .ref (ad (y + 18)), .ref (ad (y + 19)), .ref (ad (y + 20)), .ref (ad (y + 21)), .ref (ad (y + 22)), .ref (ad (y + 23)), .ref (ad (y + 24)), .ref (ad (y + 25)), .ref (ad (y + 26))])) (f_Co : w (y + 1) = aI G 8 (fun q => (Co q : Int))) (f_Va : w (y + 2) = aI G 64 (fun q => (Va q : Int))) (f_Ra : w (y + 3) = aI G 8 (fun q => (Ra q : Int))) (f_Ex : w (y + 13) = aI G 16 (fun q => (Ex q : Int))) (f_Xs : w (y + 17) = aI G 1280 (fun q => (Xs q : Int))) (f_by : w (y + 19) = aI G 8 (fun q => (b9 q : Int))) (f_fw : w (y + 20) = aI G 18009 Fw0) (f_tk : w (y + 21) = aI G 8 (fun q => (tk0 q : Int))) (f_bd : w (y + 22) = aI G 8 (fun q => (bd q : Int))) (f_po : w (y + 24) = aI G 8 po) (f_wa : w (y + 25) = aI G 8 wa) : Met l yX7_findWanted wsX7_findWanted ({ frames := 2, cells := 0, slots := 0, locals := 53 }) (va_Pc [.ref (ad y), .int (iI ((t : Nat) : Int))] (nB G N ad w sz)) (nPi G N ad sz (fun r u => (∀ j, j ≠ (y + 19) → j ≠ (y + 20) → j ≠ (y + 21) → j ≠ (y + 22) → j ≠ (y + 24) → j ≠ (y + 25) → u j = w j) ∧ (r = if allB (fun q9 => okI lst (chI (Ra 0) (Ra 1) (fun s1 q => Va (8 * s1 + q)) (fun q => Xs (80 * t + 4 * q)) (fun q => Xs (80 * t + 4 * q + 1)) (fun q => Xs (80 * t + 4 * q + 2)) (fun q => Xs (80 * t + 4 * q + 3)) q9)) (Ex t) = true then 1 else 0) ∧ (∃ wa1 : Nat → Int, u (y + 25) = aI G 8 wa1 ∧ (allB (fun q9 => okI lst (chI (Ra 0) (Ra 1) (fun s1 q => Va (8 * s1 + q)) (fun q => Xs (80 * t + 4 * q)) (fun q => Xs (80 * t + 4 * q + 1)) (fun q => Xs (80 * t + 4 * q + 2)) (fun q => Xs (80 * t + 4 * q + 3)) q9)) (Ex t) = true → ∀ k, k < Co 1 → wa1 k = (mlM (fun q9 => tkq (chI (Ra 0) (Ra 1) (fun s1 q => Va (8 * s1 + q)) (fun q => Xs (80 * t + 4 * q)) (fun q => Xs (80 * t + 4 * q + 1)) (fun q => Xs (80 * t + 4 * q + 2)) (fun q => Xs (80 * t + 4 * q + 3)) q9).toNat k) (fun q9 => mlA (fun q => Xs (80 * t + 4 * q + 1)) (fun q => Xs (80 * t + 4 * q + 2)) (fun q => Xs (80 * t + 4 * q + 3)) k q9) (Ex t)))) ∧ (∃ P1 : Nat → Int, u (y + 24) = aI G 8 P1) ∧ (∃ B1 : Nat → Nat, u (y + 19) = aI G 8 (fun q => (B1 q : Int))) ∧ (∃ F1 : Nat → Int, u (y + 20) = aI G 18009 F1) ∧ (∃ T1 : Nat → Nat, u (y + 21) = aI G 8 (fun q => (T1 q : Int))) ∧ (∃ D1 : Nat → Nat, u (y + 22) = aI G 8 (fun q => (D1 q : Int))))) 0 0 (nA N ad sz) := by
  refine n_ent (cc := cX7_findWanted) (maxL := 8) (ret := (some .boolean)) (by decide) rfl (Nat.le_of_ble_eq_true rfl) ?_
  intro p e s m below meth cd hx hb hr hml hlocks hts hown hnm hsz hP hK hI Q hQ ls hl
  have hown : s.vm.findClass RX7 = some m.cls := hown
  subst hsz
  have hJ := hI.J s.heap.size
  have hS : va_S (nA N ad s.heap.size) s.heap s.heap [] := va_S.rf
  have hfr : ∀ j, j ≠ (y + 19) → j ≠ (y + 20) → j ≠ (y + 21) → j ≠ (y + 22) → j ≠ (y + 24) → j ≠ (y + 25) → w j = w j := fun _ _ _ _ _ _ _ => rfl
  have hl : lv_has ls 8 [(0, .ref (ad y)), (1, .int (iI ((t : Nat) : Int)))] := hl
  have hc1 := hCo 1 (by omega)
  have hr0 := hRa 0 (by omega)
  have hr1 := hRa 1 (by omega)
  have het := hEx t (by omega)
  refine n_iconst hx hb dX7_findWanted_0 ?_
  refine lv_istore_n (lv' := [(2, .int (iI 0)), (0, .ref (ad y)), (1, .int (iI ((t : Nat) : Int)))]) hx hb dX7_findWanted_1 rfl hl (by decide) rfl (fun ls hl => ?_)
  have lp1 : ∀ (fu : Nat), ∀ (q : Nat) (po : Nat → Int) (wa : Nat → Int), ∀ (w2 : Nat → va_E) (H : Heap) (locs : List Loc), ∀ (ls : Array Slot), 8 - q < fu → q ≤ 8 → (∀ j, j < q → po j = 0 ∧ wa j = 0) → (∀ j, j ≠ (y + 19) → j ≠ (y + 20) → j ≠ (y + 21) → j ≠ (y + 22) → j ≠ (y + 24) → j ≠ (y + 25) → w2 j = w j) → w2 y = .inr (7, [.int (iI 0), .ref (ad (y + 1)), .ref (ad (y + 2)), .ref (ad (y + 3)), .ref (ad (y + 4)), .ref (ad (y + 5)), .ref (ad (y + 6)), .ref (ad (y + 7)), .ref (ad (y + 8)), .ref (ad (y + 9)), .ref (ad (y + 10)), .ref (ad (y + 11)), .ref (ad (y + 12)), .ref (ad (y + 13)), .ref (ad (y + 14)), .ref (ad (y + 15)), .ref (ad (y + 16)), .ref (ad (y + 17)), .ref (ad (y + 18)), .ref (ad (y + 19)), .ref (ad (y + 20)), .ref (ad (y + 21)), .ref (ad (y + 22)), .ref (ad (y + 23)), .ref (ad (y + 24)), .ref (ad (y + 25)), .ref (ad (y + 26))]) → w2 (y + 1) = aI G 8 (fun q => (Co q : Int)) → w2 (y + 2) = aI G 64 (fun q => (Va q : Int)) → w2 (y + 3) = aI G 8 (fun q => (Ra q : Int)) → w2 (y + 13) = aI G 16 (fun q => (Ex q : Int)) → w2 (y + 17) = aI G 1280 (fun q => (Xs q : Int)) → w2 (y + 19) = aI G 8 (fun q => (b9 q : Int)) → w2 (y + 20) = aI G 18009 Fw0 → w2 (y + 21) = aI G 8 (fun q => (tk0 q : Int)) → w2 (y + 22) = aI G 8 (fun q => (bd q : Int)) → w2 (y + 24) = aI G 8 po → w2 (y + 25) = aI G 8 wa → va_P G.1 vwCl (nL N ad w2) H → va_S (nA N ad s.heap.size) s.heap H locs → lv_has ls 8 [(0, .ref (ad y)), (1, .int (iI ((t : Nat) : Int))), (2, .int (iI ((q : Nat) : Int)))] → W p l e ({ frames := 2, cells := 0, slots := 0, locals := 53 } : Room) s m ([.ref (ad y), .int (iI ((t : Nat) : Int))] : List Value).toArray below meth cd H locs 0 0 Q (F0 m 2 ls []) := by
    intro fu
    induction fu with
    | zero =>
      intro q po wa w2 H locs ls hfu hq hz hfr f_y f_Co f_Va f_Ra f_Ex f_Xs f_by f_fw f_tk f_bd f_po f_wa hP hS hl
      exact absurd hfu (Nat.not_lt_zero _)
    | succ fu ih3 =>
      intro q po wa w2 H locs ls hfu hq hz hfr f_y f_Co f_Va f_Ra f_Ex f_Xs f_by f_fw f_tk f_bd f_po f_wa hP hS hl
      refine lv_iload_n hx hb dX7_findWanted_2 rfl (lv_at hl 2 rfl) ?_
      refine n_bipush hx hb dX7_findWanted_3 (by decide) ?_
      refine n_icmp_ge (tgt := 28) hx hb dX7_findWanted_5 (by decide) (by omega) (by omega) (fun hc5 => ?_) (fun hc5 => ?_)
      · skip
        refine n_iconst hx hb dX7_findWanted_28 ?_
        refine lv_istore_n (lv' := [(2, .int (iI 0)), (0, .ref (ad y)), (1, .int (iI ((t : Nat) : Int)))]) hx hb dX7_findWanted_29 rfl hl (by decide) rfl (fun ls hl => ?_)
        have lp4 : ∀ (fu : Nat), ∀ (e1 : Nat) (b9 : Nat → Nat) (bd : Nat → Nat) (tk0 : Nat → Nat) (Fw0 : Nat → Int) (po : Nat → Int) (wa : Nat → Int), ∀ (w5 : Nat → va_E) (H : Heap) (locs : List Loc), ∀ (ls : Array Slot), Ex t - e1 < fu → e1 ≤ Ex t → allB (fun q9 => okI lst (chI (Ra 0) (Ra 1) (fun s1 q => Va (8 * s1 + q)) (fun q => Xs (80 * t + 4 * q)) (fun q => Xs (80 * t + 4 * q + 1)) (fun q => Xs (80 * t + 4 * q + 2)) (fun q => Xs (80 * t + 4 * q + 3)) q9)) e1 = true → (∀ q, q < e1 → 0 ≤ (chI (Ra 0) (Ra 1) (fun s1 q => Va (8 * s1 + q)) (fun q => Xs (80 * t + 4 * q)) (fun q => Xs (80 * t + 4 * q + 1)) (fun q => Xs (80 * t + 4 * q + 2)) (fun q => Xs (80 * t + 4 * q + 3)) q) ∧ (chI (Ra 0) (Ra 1) (fun s1 q => Va (8 * s1 + q)) (fun q => Xs (80 * t + 4 * q)) (fun q => Xs (80 * t + 4 * q + 1)) (fun q => Xs (80 * t + 4 * q + 2)) (fun q => Xs (80 * t + 4 * q + 3)) q) ≤ 2000) → (∀ k, k < Co 1 → wa k = (mlM (fun q9 => tkq (chI (Ra 0) (Ra 1) (fun s1 q => Va (8 * s1 + q)) (fun q => Xs (80 * t + 4 * q)) (fun q => Xs (80 * t + 4 * q + 1)) (fun q => Xs (80 * t + 4 * q + 2)) (fun q => Xs (80 * t + 4 * q + 3)) q9).toNat k) (fun q9 => mlA (fun q => Xs (80 * t + 4 * q + 1)) (fun q => Xs (80 * t + 4 * q + 2)) (fun q => Xs (80 * t + 4 * q + 3)) k q9) e1) ∧ po k = (mlB (fun q9 => tkq (chI (Ra 0) (Ra 1) (fun s1 q => Va (8 * s1 + q)) (fun q => Xs (80 * t + 4 * q)) (fun q => Xs (80 * t + 4 * q + 1)) (fun q => Xs (80 * t + 4 * q + 2)) (fun q => Xs (80 * t + 4 * q + 3)) q9).toNat k) (fun q9 => mlA (fun q => Xs (80 * t + 4 * q + 1)) (fun q => Xs (80 * t + 4 * q + 2)) (fun q => Xs (80 * t + 4 * q + 3)) k q9) e1) + (mlM (fun q9 => tkq (chI (Ra 0) (Ra 1) (fun s1 q => Va (8 * s1 + q)) (fun q => Xs (80 * t + 4 * q)) (fun q => Xs (80 * t + 4 * q + 1)) (fun q => Xs (80 * t + 4 * q + 2)) (fun q => Xs (80 * t + 4 * q + 3)) q9).toNat k) (fun q9 => mlA (fun q => Xs (80 * t + 4 * q + 1)) (fun q => Xs (80 * t + 4 * q + 2)) (fun q => Xs (80 * t + 4 * q + 3)) k q9) e1)) → (∀ j, j ≠ (y + 19) → j ≠ (y + 20) → j ≠ (y + 21) → j ≠ (y + 22) → j ≠ (y + 24) → j ≠ (y + 25) → w5 j = w j) → w5 y = .inr (7, [.int (iI 0), .ref (ad (y + 1)), .ref (ad (y + 2)), .ref (ad (y + 3)), .ref (ad (y + 4)), .ref (ad (y + 5)), .ref (ad (y + 6)), .ref (ad (y + 7)), .ref (ad (y + 8)), .ref (ad (y + 9)), .ref (ad (y + 10)), .ref (ad (y + 11)), .ref (ad (y + 12)), .ref (ad (y + 13)), .ref (ad (y + 14)), .ref (ad (y + 15)), .ref (ad (y + 16)), .ref (ad (y + 17)), .ref (ad (y + 18)), .ref (ad (y + 19)), .ref (ad (y + 20)), .ref (ad (y + 21)), .ref (ad (y + 22)), .ref (ad (y + 23)), .ref (ad (y + 24)), .ref (ad (y + 25)), .ref (ad (y + 26))]) → w5 (y + 1) = aI G 8 (fun q => (Co q : Int)) → w5 (y + 2) = aI G 64 (fun q => (Va q : Int)) → w5 (y + 3) = aI G 8 (fun q => (Ra q : Int)) → w5 (y + 13) = aI G 16 (fun q => (Ex q : Int)) → w5 (y + 17) = aI G 1280 (fun q => (Xs q : Int)) → w5 (y + 19) = aI G 8 (fun q => (b9 q : Int)) → w5 (y + 20) = aI G 18009 Fw0 → w5 (y + 21) = aI G 8 (fun q => (tk0 q : Int)) → w5 (y + 22) = aI G 8 (fun q => (bd q : Int)) → w5 (y + 24) = aI G 8 po → w5 (y + 25) = aI G 8 wa → va_P G.1 vwCl (nL N ad w5) H → va_S (nA N ad s.heap.size) s.heap H locs → lv_has ls 8 [(0, .ref (ad y)), (1, .int (iI ((t : Nat) : Int))), (2, .int (iI ((e1 : Nat) : Int)))] → W p l e ({ frames := 2, cells := 0, slots := 0, locals := 53 } : Room) s m ([.ref (ad y), .int (iI ((t : Nat) : Int))] : List Value).toArray below meth cd H locs 0 0 Q (F0 m 30 ls []) := by
          intro fu
          induction fu with
          | zero =>
            intro e1 b9 bd tk0 Fw0 po wa w5 H locs ls hfu he hall hch hw hfr f_y f_Co f_Va f_Ra f_Ex f_Xs f_by f_fw f_tk f_bd f_po f_wa hP hS hl
            exact absurd hfu (Nat.not_lt_zero _)
          | succ fu ih6 =>
            intro e1 b9 bd tk0 Fw0 po wa w5 H locs ls hfu he hall hch hw hfr f_y f_Co f_Va f_Ra f_Ex f_Xs f_by f_fw f_tk f_bd f_po f_wa hP hS hl
            have hmr : ∀ k, (-(2000 * (e1 : Int)) ≤ (mlB (fun q9 => tkq (chI (Ra 0) (Ra 1) (fun s1 q => Va (8 * s1 + q)) (fun q => Xs (80 * t + 4 * q)) (fun q => Xs (80 * t + 4 * q + 1)) (fun q => Xs (80 * t + 4 * q + 2)) (fun q => Xs (80 * t + 4 * q + 3)) q9).toNat k) (fun q9 => mlA (fun q => Xs (80 * t + 4 * q + 1)) (fun q => Xs (80 * t + 4 * q + 2)) (fun q => Xs (80 * t + 4 * q + 3)) k q9) e1) ∧ (mlB (fun q9 => tkq (chI (Ra 0) (Ra 1) (fun s1 q => Va (8 * s1 + q)) (fun q => Xs (80 * t + 4 * q)) (fun q => Xs (80 * t + 4 * q + 1)) (fun q => Xs (80 * t + 4 * q + 2)) (fun q => Xs (80 * t + 4 * q + 3)) q9).toNat k) (fun q9 => mlA (fun q => Xs (80 * t + 4 * q + 1)) (fun q => Xs (80 * t + 4 * q + 2)) (fun q => Xs (80 * t + 4 * q + 3)) k q9) e1) ≤ 50 * (e1 : Int)) ∧ 0 ≤ (mlM (fun q9 => tkq (chI (Ra 0) (Ra 1) (fun s1 q => Va (8 * s1 + q)) (fun q => Xs (80 * t + 4 * q)) (fun q => Xs (80 * t + 4 * q + 1)) (fun q => Xs (80 * t + 4 * q + 2)) (fun q => Xs (80 * t + 4 * q + 3)) q9).toNat k) (fun q9 => mlA (fun q => Xs (80 * t + 4 * q + 1)) (fun q => Xs (80 * t + 4 * q + 2)) (fun q => Xs (80 * t + 4 * q + 3)) k q9) e1) ∧ (mlM (fun q9 => tkq (chI (Ra 0) (Ra 1) (fun s1 q => Va (8 * s1 + q)) (fun q => Xs (80 * t + 4 * q)) (fun q => Xs (80 * t + 4 * q + 1)) (fun q => Xs (80 * t + 4 * q + 2)) (fun q => Xs (80 * t + 4 * q + 3)) q9).toNat k) (fun q9 => mlA (fun q => Xs (80 * t + 4 * q + 1)) (fun q => Xs (80 * t + 4 * q + 2)) (fun q => Xs (80 * t + 4 * q + 3)) k q9) e1) ≤ 2000 * (e1 : Int) := fun k => ml_rng e1 (fun q hq9 => by have h9 := hch q hq9; have h8 := hex q (by omega); refine ⟨htr _ _ (by omega), ?_⟩; show 0 ≤ mlA (fun q => Xs (80 * t + 4 * q + 1)) (fun q => Xs (80 * t + 4 * q + 2)) (fun q => Xs (80 * t + 4 * q + 3)) k q ∧ mlA (fun q => Xs (80 * t + 4 * q + 1)) (fun q => Xs (80 * t + 4 * q + 2)) (fun q => Xs (80 * t + 4 * q + 3)) k q ≤ 50; unfold mlA; split; exact ⟨by omega, by show ((Xs (80 * t + 4 * q + 3) : Nat) : Int) ≤ 50; omega⟩; exact ⟨by omega, by omega⟩)
            refine lv_iload_n hx hb dX7_findWanted_30 rfl (lv_at hl 2 rfl) ?_
            refine lv_aload_n hx hb dX7_findWanted_31 rfl (lv_at hl 0 rfl) ?_
            refine n_get hx hb hts u_X7 hown hK hP (by omega) f_y rfl 13 (by decide) (nT_m wf_X7_47) rfl dX7_findWanted_32 ?_
            refine lv_iload_n hx hb dX7_findWanted_35 rfl (lv_at hl 1 rfl) ?_
            refine n_iald hx hb hK hP t (by omega) f_Ex (by omega) (by omega) (by decide) dX7_findWanted_36 ?_
            have ho7 := hEx t (by omega)
            refine n_icmp_ge (tgt := 260) hx hb dX7_findWanted_37 (by decide) (by omega) (by omega) (fun hc37 => ?_) (fun hc37 => ?_)
            · skip
              refine n_iconst hx hb dX7_findWanted_260 ?_
              refine n_zretP (t := True) hQ hx hb hr hlocks rfl hP hS dX7_findWanted_261 ?_
              obtain rfl : e1 = Ex t := by omega
              exact ⟨hfr, by rw [if_pos hall], ⟨_, f_wa, fun _ k hk9 => (hw k hk9).1⟩, ⟨_, f_po⟩, ⟨_, f_by⟩, ⟨_, f_fw⟩, ⟨_, f_tk⟩, ⟨_, f_bd⟩⟩
            · skip
              have hxq := hex e1 (by omega)
              have hcq := hCo (Xs (80 * t + 4 * e1 + 1)) (by omega)
              have hvq := hVa (8 * Xs (80 * t + 4 * e1 + 1) + Xs (80 * t + 4 * e1 + 2)) (by omega)
              have hsr : -200000 ≤ (spI (Ra 0) (Ra 1) (fun s1 q => Va (8 * s1 + q)) (fun q => Xs (80 * t + 4 * q)) (fun q => Xs (80 * t + 4 * q + 1)) (fun q => Xs (80 * t + 4 * q + 2)) (fun q => Xs (80 * t + 4 * q + 3)) e1) ∧ (spI (Ra 0) (Ra 1) (fun s1 q => Va (8 * s1 + q)) (fun q => Xs (80 * t + 4 * q)) (fun q => Xs (80 * t + 4 * q + 1)) (fun q => Xs (80 * t + 4 * q + 2)) (fun q => Xs (80 * t + 4 * q + 3)) e1) ≤ 5000000 := spare_rng hxq.2.1.2 hvq hr0.2 hr1.2 hxq.1.2
              have hcn9 : (spI (Ra 0) (Ra 1) (fun s1 q => Va (8 * s1 + q)) (fun q => Xs (80 * t + 4 * q)) (fun q => Xs (80 * t + 4 * q + 1)) (fun q => Xs (80 * t + 4 * q + 2)) (fun q => Xs (80 * t + 4 * q + 3)) e1) < 0 → (chI (Ra 0) (Ra 1) (fun s1 q => Va (8 * s1 + q)) (fun q => Xs (80 * t + 4 * q)) (fun q => Xs (80 * t + 4 * q + 1)) (fun q => Xs (80 * t + 4 * q + 2)) (fun q => Xs (80 * t + 4 * q + 3)) e1) = -1 := fun h9 => if_pos h9
              refine n_iconst hx hb dX7_findWanted_40 ?_
              refine n_bipush hx hb dX7_findWanted_41 (by decide) ?_
              refine lv_iload_n hx hb dX7_findWanted_43 rfl (lv_at hl 1 rfl) ?_
              refine n_imul hx hb dX7_findWanted_44 ?_
              refine lv_iload_n hx hb dX7_findWanted_45 rfl (lv_at hl 2 rfl) ?_
              refine n_iadd hx hb dX7_findWanted_46 ?_
              refine n_imul hx hb dX7_findWanted_47 ?_
              refine lv_istore_n (lv' := [(3, .int (iI ((80 * t + 4 * e1 : Nat) : Int))), (0, .ref (ad y)), (1, .int (iI ((t : Nat) : Int))), (2, .int (iI ((e1 : Nat) : Int)))]) hx hb dX7_findWanted_48 rfl hl (by decide) (lc_i (by omega) rfl) (fun ls hl => ?_)
              refine lv_aload_n hx hb dX7_findWanted_49 rfl (lv_at hl 1 rfl) ?_
              refine lv_aload_n hx hb dX7_findWanted_50 rfl (lv_at hl 1 rfl) ?_
              refine n_get hx hb hts u_X7 hown hK hP (by omega) f_y rfl 17 (by decide) (nT_m wf_X7_59) rfl dX7_findWanted_51 ?_
              refine lv_iload_n hx hb dX7_findWanted_54 rfl (lv_at hl 0 rfl) ?_
              refine n_iald hx hb hK hP (80 * t + 4 * e1) (by omega) f_Xs (by omega) (by omega) (by decide) dX7_findWanted_55 ?_
              refine lv_aload_n hx hb dX7_findWanted_56 rfl (lv_at hl 1 rfl) ?_
              refine n_get hx hb hts u_X7 hown hK hP (by omega) f_y rfl 17 (by decide) (nT_m wf_X7_59) rfl dX7_findWanted_57 ?_
              refine lv_iload_n hx hb dX7_findWanted_60 rfl (lv_at hl 0 rfl) ?_
              refine n_iconst hx hb dX7_findWanted_61 ?_
              refine n_iadd hx hb dX7_findWanted_62 ?_
              refine n_iald hx hb hK hP (80 * t + 4 * e1 + 1) (by omega) f_Xs (by omega) (by omega) (by decide) dX7_findWanted_63 ?_
              refine lv_aload_n hx hb dX7_findWanted_64 rfl (lv_at hl 1 rfl) ?_
              refine n_get hx hb hts u_X7 hown hK hP (by omega) f_y rfl 17 (by decide) (nT_m wf_X7_59) rfl dX7_findWanted_65 ?_
              refine lv_iload_n hx hb dX7_findWanted_68 rfl (lv_at hl 0 rfl) ?_
              refine n_iconst hx hb dX7_findWanted_69 ?_
              refine n_iadd hx hb dX7_findWanted_70 ?_
              refine n_iald hx hb hK hP (80 * t + 4 * e1 + 2) (by omega) f_Xs (by omega) (by omega) (by decide) dX7_findWanted_71 ?_
              refine lv_aload_n hx hb dX7_findWanted_72 rfl (lv_at hl 1 rfl) ?_
              refine n_get hx hb hts u_X7 hown hK hP (by omega) f_y rfl 17 (by decide) (nT_m wf_X7_59) rfl dX7_findWanted_73 ?_
              refine lv_iload_n hx hb dX7_findWanted_76 rfl (lv_at hl 0 rfl) ?_
              refine n_iconst hx hb dX7_findWanted_77 ?_
              refine n_iadd hx hb dX7_findWanted_78 ?_
              refine n_iald hx hb hK hP (80 * t + 4 * e1 + 3) (by omega) f_Xs (by omega) (by omega) (by decide) dX7_findWanted_79 ?_
              refine n_rdF (v := .int (iI (spI (Ra 0) (Ra 1) (fun s1 q => Va (8 * s1 + q)) (fun q => Xs (80 * t + 4 * q)) (fun q => Xs (80 * t + 4 * q + 1)) (fun q => Xs (80 * t + 4 * q + 2)) (fun q => Xs (80 * t + 4 * q + 3)) e1))) (va_runV (As := [.int (iI (Xs (80 * t + 4 * e1) : Int)), .int (iI (Xs (80 * t + 4 * e1 + 1) : Int)), .int (iI (Xs (80 * t + 4 * e1 + 2) : Int)), .int (iI (Xs (80 * t + 4 * e1 + 3) : Int))]) (rest := []) ⟨hx, hb, hml, hown, hts⟩ (c_X7_over _ Va Ra (Xs (80 * t + 4 * e1)) (Xs (80 * t + 4 * e1 + 1)) (Xs (80 * t + 4 * e1 + 2)) (Xs (80 * t + 4 * e1 + 3)) (by omega) hVa hRa (by omega) (by omega) f_y f_Va f_Ra) (cwV 4 hts (nT_V wl_X7_145 wi_X7_over ws_X7_over wn_X7 wc_X7_over) rfl rfl rfl (by decide +kernel) ⟨Nat.le_of_ble_eq_true rfl, Nat.le_of_ble_eq_true rfl⟩) (nB.preV hK hI hP (by omega) f_y rfl rfl) rfl rfl hl.1 rfl (lv_room (Nat.le_of_ble_eq_true rfl)) dX7_findWanted_80 ⟨Nat.zero_le _, Nat.zero_le _⟩) ?_
              refine lv_istore (lv' := [(4, .int (iI (spI (Ra 0) (Ra 1) (fun s1 q => Va (8 * s1 + q)) (fun q => Xs (80 * t + 4 * q)) (fun q => Xs (80 * t + 4 * q + 1)) (fun q => Xs (80 * t + 4 * q + 2)) (fun q => Xs (80 * t + 4 * q + 3)) e1))), (3, .int (iI ((80 * t + 4 * e1 : Nat) : Int))), (0, .ref (ad y)), (1, .int (iI ((t : Nat) : Int))), (2, .int (iI ((e1 : Nat) : Int)))]) hx hb dX7_findWanted_83 hl (by decide) rfl (fun ls hl => ?_)
              refine lv_iload hx hb dX7_findWanted_85 (lv_at hl 0 rfl) ?_
              refine lv_aload_n hx hb dX7_findWanted_87 rfl (lv_at hl 2 rfl) ?_
              refine n_get hx hb hts u_X7 hown hK hP (by omega) f_y rfl 3 (by decide) (nT_m wf_X7_16) rfl dX7_findWanted_88 ?_
              refine n_iconst hx hb dX7_findWanted_91 ?_
              refine n_iald hx hb hK hP 1 (by omega) f_Ra (by omega) (by omega) (by decide) dX7_findWanted_92 ?_
              have ho8 := hRa 1 (by omega)
              refine n_idiv hx hb dX7_findWanted_93 (by omega) (by omega) ?_
              refine lv_istore (lv' := [(5, .int (iI (Int.tdiv (spI (Ra 0) (Ra 1) (fun s1 q => Va (8 * s1 + q)) (fun q => Xs (80 * t + 4 * q)) (fun q => Xs (80 * t + 4 * q + 1)) (fun q => Xs (80 * t + 4 * q + 2)) (fun q => Xs (80 * t + 4 * q + 3)) e1) (Ra 1 : Int)))), (4, .int (iI (spI (Ra 0) (Ra 1) (fun s1 q => Va (8 * s1 + q)) (fun q => Xs (80 * t + 4 * q)) (fun q => Xs (80 * t + 4 * q + 1)) (fun q => Xs (80 * t + 4 * q + 2)) (fun q => Xs (80 * t + 4 * q + 3)) e1))), (3, .int (iI ((80 * t + 4 * e1 : Nat) : Int))), (0, .ref (ad y)), (1, .int (iI ((t : Nat) : Int))), (2, .int (iI ((e1 : Nat) : Int)))]) hx hb dX7_findWanted_94 hl (by decide) rfl (fun ls hl => ?_)
              refine lv_iload hx hb dX7_findWanted_96 (lv_at hl 1 rfl) ?_
              refine n_if_lt (tgt := 109) hx hb dX7_findWanted_98 (by decide) (by omega) (fun hc98 => ?_) (fun hc98 => ?_)
              · skip
                refine n_iconst hx hb dX7_findWanted_109 ?_
                refine n_zretP (t := False) hQ hx hb hr hlocks rfl hP hS dX7_findWanted_110 ?_
                exact ⟨hfr, by rw [if_neg (by rw [allB_f (P := (fun q9 => okI lst (chI (Ra 0) (Ra 1) (fun s1 q => Va (8 * s1 + q)) (fun q => Xs (80 * t + 4 * q)) (fun q => Xs (80 * t + 4 * q + 1)) (fun q => Xs (80 * t + 4 * q + 2)) (fun q => Xs (80 * t + 4 * q + 3)) q9))) (q := e1) (decide_eq_false (fun h9 => by omega)) (Ex t) (by omega)]; decide)], ⟨_, f_wa, fun h9 => by rw [allB_f (P := (fun q9 => okI lst (chI (Ra 0) (Ra 1) (fun s1 q => Va (8 * s1 + q)) (fun q => Xs (80 * t + 4 * q)) (fun q => Xs (80 * t + 4 * q + 1)) (fun q => Xs (80 * t + 4 * q + 2)) (fun q => Xs (80 * t + 4 * q + 3)) q9))) (q := e1) (decide_eq_false (fun h9 => by omega)) (Ex t) (by omega)] at h9; cases h9⟩, ⟨_, f_po⟩, ⟨_, f_by⟩, ⟨_, f_fw⟩, ⟨_, f_tk⟩, ⟨_, f_bd⟩⟩
              · skip
                have htd : Int.tdiv (spI (Ra 0) (Ra 1) (fun s1 q => Va (8 * s1 + q)) (fun q => Xs (80 * t + 4 * q)) (fun q => Xs (80 * t + 4 * q + 1)) (fun q => Xs (80 * t + 4 * q + 2)) (fun q => Xs (80 * t + 4 * q + 3)) e1) ((Ra 1 : Nat) : Int) = (spI (Ra 0) (Ra 1) (fun s1 q => Va (8 * s1 + q)) (fun q => Xs (80 * t + 4 * q)) (fun q => Xs (80 * t + 4 * q + 1)) (fun q => Xs (80 * t + 4 * q + 2)) (fun q => Xs (80 * t + 4 * q + 3)) e1) / ((Ra 1 : Nat) : Int) := Int.tdiv_eq_ediv_of_nonneg (by omega)
                have hd0 : 0 ≤ (spI (Ra 0) (Ra 1) (fun s1 q => Va (8 * s1 + q)) (fun q => Xs (80 * t + 4 * q)) (fun q => Xs (80 * t + 4 * q + 1)) (fun q => Xs (80 * t + 4 * q + 2)) (fun q => Xs (80 * t + 4 * q + 3)) e1) / ((Ra 1 : Nat) : Int) := Int.ediv_nonneg (by omega) (by omega)
                have hd1 : (spI (Ra 0) (Ra 1) (fun s1 q => Va (8 * s1 + q)) (fun q => Xs (80 * t + 4 * q)) (fun q => Xs (80 * t + 4 * q + 1)) (fun q => Xs (80 * t + 4 * q + 2)) (fun q => Xs (80 * t + 4 * q + 3)) e1) / ((Ra 1 : Nat) : Int) ≤ (spI (Ra 0) (Ra 1) (fun s1 q => Va (8 * s1 + q)) (fun q => Xs (80 * t + 4 * q)) (fun q => Xs (80 * t + 4 * q + 1)) (fun q => Xs (80 * t + 4 * q + 2)) (fun q => Xs (80 * t + 4 * q + 3)) e1) := Int.ediv_le_self _ (by omega)
                have hcp : (chI (Ra 0) (Ra 1) (fun s1 q => Va (8 * s1 + q)) (fun q => Xs (80 * t + 4 * q)) (fun q => Xs (80 * t + 4 * q + 1)) (fun q => Xs (80 * t + 4 * q + 2)) (fun q => Xs (80 * t + 4 * q + 3)) e1) = (spI (Ra 0) (Ra 1) (fun s1 q => Va (8 * s1 + q)) (fun q => Xs (80 * t + 4 * q)) (fun q => Xs (80 * t + 4 * q + 1)) (fun q => Xs (80 * t + 4 * q + 2)) (fun q => Xs (80 * t + 4 * q + 3)) e1) / ((Ra 1 : Nat) : Int) := if_neg (by omega)
                refine lv_iload hx hb dX7_findWanted_101 (lv_at hl 0 rfl) ?_
                refine n_sipush hx hb dX7_findWanted_103 (by decide) ?_
                refine n_icmp_le (tgt := 111) hx hb dX7_findWanted_106 (by decide) (by omega) (by omega) (fun hc106 => ?_) (fun hc106 => ?_)
                · skip
                  have hcE : Int.tdiv (spI (Ra 0) (Ra 1) (fun s1 q => Va (8 * s1 + q)) (fun q => Xs (80 * t + 4 * q)) (fun q => Xs (80 * t + 4 * q + 1)) (fun q => Xs (80 * t + 4 * q + 2)) (fun q => Xs (80 * t + 4 * q + 3)) e1) ((Ra 1 : Nat) : Int) = (((chI (Ra 0) (Ra 1) (fun s1 q => Va (8 * s1 + q)) (fun q => Xs (80 * t + 4 * q)) (fun q => Xs (80 * t + 4 * q + 1)) (fun q => Xs (80 * t + 4 * q + 2)) (fun q => Xs (80 * t + 4 * q + 3)) e1).toNat : Nat) : Int) := by omega
                  rw [hcE] at hl
                  refine lv_aload_n hx hb dX7_findWanted_111 rfl (lv_at hl 3 rfl) ?_
                  obtain ⟨bd1, hbd1⟩ : ∃ z9 : Nat → Nat, z9 = nbF bd 8 := ⟨_, rfl⟩
                  refine n_cV (va_runV (As := []) (rest := []) ⟨hx, hb, hml, hown, hts⟩ (c_X7_noBounds y bd (by omega) f_y f_bd) (cwV 0 hts (nT_V wl_X7_125 wi_X7_noBounds ws_X7_noBounds wn_X7 wc_X7_noBounds) rfl rfl rfl (by decide +kernel) ⟨Nat.le_of_ble_eq_true rfl, Nat.le_of_ble_eq_true rfl⟩) (nB.preV hK hI hP (by omega) f_y rfl rfl) rfl rfl hl.1 rfl (lv_room (Nat.le_of_ble_eq_true rfl)) dX7_findWanted_112 ⟨Nat.zero_le _, Nat.zero_le _⟩) hS (fun w9 H locs hq11 hP hS => ?_)
                  obtain ⟨hne12, hp_bd⟩ := hq11
                  have f_y := (hne12 y (by omega)).trans f_y
                  have f_Co := (hne12 (y + 1) (by omega)).trans f_Co
                  have f_Va := (hne12 (y + 2) (by omega)).trans f_Va
                  have f_Ra := (hne12 (y + 3) (by omega)).trans f_Ra
                  have f_Ex := (hne12 (y + 13) (by omega)).trans f_Ex
                  have f_Xs := (hne12 (y + 17) (by omega)).trans f_Xs
                  have f_by := (hne12 (y + 19) (by omega)).trans f_by
                  have f_fw := (hne12 (y + 20) (by omega)).trans f_fw
                  have f_tk := (hne12 (y + 21) (by omega)).trans f_tk
                  have f_po := (hne12 (y + 24) (by omega)).trans f_po
                  have f_wa := (hne12 (y + 25) (by omega)).trans f_wa
                  have f_bd : w9 (y + 22) = aI G 8 (fun q => (bd1 q : Int)) := (by rw [hbd1]; exact hp_bd)
                  have hfr : ∀ j, j ≠ (y + 19) → j ≠ (y + 20) → j ≠ (y + 21) → j ≠ (y + 22) → j ≠ (y + 24) → j ≠ (y + 25) → w9 j = w j := fun j a0 a1 a2 a3 a4 a5 => (hne12 j (by omega)).trans (hfr j a0 a1 a2 a3 a4 a5)
                  have hb2 : ∀ k, k < 8 → bd1 k = 2000 := fun k hk9 => by rw [hbd1]; exact if_pos hk9
                  have hbd : ∀ k, k < 8 → bd1 k ≤ 2000 := fun k hk9 => by rw [hb2 k hk9]; exact Nat.le_refl _
                  refine lv_aload_n hx hb dX7_findWanted_115 rfl (lv_at hl 3 rfl) ?_
                  refine n_iconst hx hb dX7_findWanted_116 ?_
                  refine lv_iload hx hb dX7_findWanted_117 (lv_at hl 0 rfl) ?_
                  refine n_cI (va_runV (As := [.int (iI 1), .int (iI (((chI (Ra 0) (Ra 1) (fun s1 q => Va (8 * s1 + q)) (fun q => Xs (80 * t + 4 * q)) (fun q => Xs (80 * t + 4 * q + 1)) (fun q => Xs (80 * t + 4 * q + 2)) (fun q => Xs (80 * t + 4 * q + 3)) e1).toNat : Nat) : Int))]) (rest := []) ⟨hx, hb, hml, hown, hts⟩ (c_X7_find y Co Va 1 ((chI (Ra 0) (Ra 1) (fun s1 q => Va (8 * s1 + q)) (fun q => Xs (80 * t + 4 * q)) (fun q => Xs (80 * t + 4 * q + 1)) (fun q => Xs (80 * t + 4 * q + 2)) (fun q => Xs (80 * t + 4 * q + 3)) e1).toNat) b9 bd1 tk0 Fw0 (by omega) hCo hVa (by omega) (by omega) hV1 hbd f_y f_Co f_Va f_by f_fw f_tk f_bd) (cwV 2 hts (nT_V wl_X7_128 wi_X7_find ws_X7_find wn_X7 wc_X7_find) rfl rfl rfl (by decide +kernel) ⟨Nat.le_of_ble_eq_true rfl, Nat.le_of_ble_eq_true rfl⟩) (nB.preV hK hI hP (by omega) f_y rfl rfl) rfl rfl hl.1 rfl (lv_room (Nat.le_of_ble_eq_true rfl)) dX7_findWanted_119 ⟨Nat.zero_le _, Nat.zero_le _⟩) hS (fun r14 w13 H locs hq15 hP hS => ?_)
                  obtain ⟨hne16, B, Fw, tk1, hBe, hF, hre, htk, hp_by, hp_fw, hp_tk⟩ := hq15
                  have f_y := (hne16 y (by omega) (by omega) (by omega)).trans f_y
                  have f_Co := (hne16 (y + 1) (by omega) (by omega) (by omega)).trans f_Co
                  have f_Va := (hne16 (y + 2) (by omega) (by omega) (by omega)).trans f_Va
                  have f_Ra := (hne16 (y + 3) (by omega) (by omega) (by omega)).trans f_Ra
                  have f_Ex := (hne16 (y + 13) (by omega) (by omega) (by omega)).trans f_Ex
                  have f_Xs := (hne16 (y + 17) (by omega) (by omega) (by omega)).trans f_Xs
                  have f_bd := (hne16 (y + 22) (by omega) (by omega) (by omega)).trans f_bd
                  have f_po := (hne16 (y + 24) (by omega) (by omega) (by omega)).trans f_po
                  have f_wa := (hne16 (y + 25) (by omega) (by omega) (by omega)).trans f_wa
                  have f_by : w13 (y + 19) = aI G 8 (fun q => (B q : Int)) := hp_by
                  have f_fw : w13 (y + 20) = aI G 18009 Fw := hp_fw
                  have f_tk : w13 (y + 21) = aI G 8 (fun q => (tk1 q : Int)) := hp_tk
                  have hfr : ∀ j, j ≠ (y + 19) → j ≠ (y + 20) → j ≠ (y + 21) → j ≠ (y + 22) → j ≠ (y + 24) → j ≠ (y + 25) → w13 j = w j := fun j a0 a1 a2 a3 a4 a5 => (hne16 j (by omega) (by omega) (by omega)).trans (hfr j a0 a1 a2 a3 a4 a5)
                  have hq9 := hfw B Fw bd1 tk0 (chI (Ra 0) (Ra 1) (fun s1 q => Va (8 * s1 + q)) (fun q => Xs (80 * t + 4 * q)) (fun q => Xs (80 * t + 4 * q + 1)) (fun q => Xs (80 * t + 4 * q + 2)) (fun q => Xs (80 * t + 4 * q + 3)) e1).toNat (by omega) ⟨_, hBe⟩ hb2 hF
                  have hlr := (hF.2.2 0 (Nat.zero_le _) (Nat.zero_le _) ((chI (Ra 0) (Ra 1) (fun s1 q => Va (8 * s1 + q)) (fun q => Xs (80 * t + 4 * q)) (fun q => Xs (80 * t + 4 * q + 1)) (fun q => Xs (80 * t + 4 * q + 2)) (fun q => Xs (80 * t + 4 * q + 3)) e1).toNat) (by omega))
                  rw [Nat.mul_zero, Nat.zero_add] at hlr
                  have htp := tbF_top Fw (Co 1) (chI (Ra 0) (Ra 1) (fun s1 q => Va (8 * s1 + q)) (fun q => Xs (80 * t + 4 * q)) (fun q => Xs (80 * t + 4 * q + 1)) (fun q => Xs (80 * t + 4 * q + 2)) (fun q => Xs (80 * t + 4 * q + 3)) e1).toNat
                  have hlr2 : -1 ≤ r14 ∧ r14 ≤ 2000 := by rw [hre, htp]; unfold dE; split <;> omega
                  refine n_iconst hx hb dX7_findWanted_122 ?_
                  refine n_icmp_ne (tgt := 128) hx hb dX7_findWanted_123 (by decide) (by omega) (by omega) (fun hc123 => ?_) (fun hc123 => ?_)
                  · skip
                    have hls : ¬ lst (chI (Ra 0) (Ra 1) (fun s1 q => Va (8 * s1 + q)) (fun q => Xs (80 * t + 4 * q)) (fun q => Xs (80 * t + 4 * q + 1)) (fun q => Xs (80 * t + 4 * q + 2)) (fun q => Xs (80 * t + 4 * q + 3)) e1).toNat = -1 := fun h9 => hc123 (by rw [hre, hq9.1]; exact h9)
                    have htkk : ∀ k, k < Co 1 → ((tk1 k : Nat) : Int) = tkq (chI (Ra 0) (Ra 1) (fun s1 q => Va (8 * s1 + q)) (fun q => Xs (80 * t + 4 * q)) (fun q => Xs (80 * t + 4 * q + 1)) (fun q => Xs (80 * t + 4 * q + 2)) (fun q => Xs (80 * t + 4 * q + 3)) e1).toNat k := fun k hk9 => by rw [htk hc123]; exact hq9.2 hls k hk9
                    refine lv_aload_n hx hb dX7_findWanted_128 rfl (lv_at hl 3 rfl) ?_
                    refine n_get hx hb hts u_X7 hown hK hP (by omega) f_y rfl 17 (by decide) (nT_m wf_X7_59) rfl dX7_findWanted_129 ?_
                    refine lv_iload_n hx hb dX7_findWanted_132 rfl (lv_at hl 2 rfl) ?_
                    refine n_iconst hx hb dX7_findWanted_133 ?_
                    refine n_iadd hx hb dX7_findWanted_134 ?_
                    refine n_iald hx hb hK hP (80 * t + 4 * e1 + 1) (by omega) f_Xs (by omega) (by omega) (by decide) dX7_findWanted_135 ?_
                    refine n_iconst hx hb dX7_findWanted_136 ?_
                    refine n_icmp_ne (tgt := 164) hx hb dX7_findWanted_137 (by decide) (by omega) (by omega) (fun hc137 => ?_) (fun hc137 => ?_)
                    · skip
                      refine n_iconst hx hb dX7_findWanted_164 ?_
                      refine lv_istore (lv' := [(6, .int (iI 0)), (5, .int (iI (((chI (Ra 0) (Ra 1) (fun s1 q => Va (8 * s1 + q)) (fun q => Xs (80 * t + 4 * q)) (fun q => Xs (80 * t + 4 * q + 1)) (fun q => Xs (80 * t + 4 * q + 2)) (fun q => Xs (80 * t + 4 * q + 3)) e1).toNat : Nat) : Int))), (4, .int (iI (spI (Ra 0) (Ra 1) (fun s1 q => Va (8 * s1 + q)) (fun q => Xs (80 * t + 4 * q)) (fun q => Xs (80 * t + 4 * q + 1)) (fun q => Xs (80 * t + 4 * q + 2)) (fun q => Xs (80 * t + 4 * q + 3)) e1))), (3, .int (iI ((80 * t + 4 * e1 : Nat) : Int))), (0, .ref (ad y)), (1, .int (iI ((t : Nat) : Int))), (2, .int (iI ((e1 : Nat) : Int)))]) hx hb dX7_findWanted_165 hl (by decide) rfl (fun ls hl => ?_)
                      have lp17 : ∀ (fu : Nat), ∀ (k : Nat) (po2 : Nat → Int) (wa2 : Nat → Int), ∀ (w18 : Nat → va_E) (H : Heap) (locs : List Loc), ∀ (ls : Array Slot), Co 1 - k < fu → k ≤ Co 1 → (∀ j, j < Co 1 → (j < k → wa2 j = (mlM (fun q9 => tkq (chI (Ra 0) (Ra 1) (fun s1 q => Va (8 * s1 + q)) (fun q => Xs (80 * t + 4 * q)) (fun q => Xs (80 * t + 4 * q + 1)) (fun q => Xs (80 * t + 4 * q + 2)) (fun q => Xs (80 * t + 4 * q + 3)) q9).toNat j) (fun q9 => mlA (fun q => Xs (80 * t + 4 * q + 1)) (fun q => Xs (80 * t + 4 * q + 2)) (fun q => Xs (80 * t + 4 * q + 3)) j q9) (e1 + 1)) ∧ po2 j = (mlB (fun q9 => tkq (chI (Ra 0) (Ra 1) (fun s1 q => Va (8 * s1 + q)) (fun q => Xs (80 * t + 4 * q)) (fun q => Xs (80 * t + 4 * q + 1)) (fun q => Xs (80 * t + 4 * q + 2)) (fun q => Xs (80 * t + 4 * q + 3)) q9).toNat j) (fun q9 => mlA (fun q => Xs (80 * t + 4 * q + 1)) (fun q => Xs (80 * t + 4 * q + 2)) (fun q => Xs (80 * t + 4 * q + 3)) j q9) (e1 + 1)) + (mlM (fun q9 => tkq (chI (Ra 0) (Ra 1) (fun s1 q => Va (8 * s1 + q)) (fun q => Xs (80 * t + 4 * q)) (fun q => Xs (80 * t + 4 * q + 1)) (fun q => Xs (80 * t + 4 * q + 2)) (fun q => Xs (80 * t + 4 * q + 3)) q9).toNat j) (fun q9 => mlA (fun q => Xs (80 * t + 4 * q + 1)) (fun q => Xs (80 * t + 4 * q + 2)) (fun q => Xs (80 * t + 4 * q + 3)) j q9) (e1 + 1))) ∧ (k ≤ j → wa2 j = (mlM (fun q9 => tkq (chI (Ra 0) (Ra 1) (fun s1 q => Va (8 * s1 + q)) (fun q => Xs (80 * t + 4 * q)) (fun q => Xs (80 * t + 4 * q + 1)) (fun q => Xs (80 * t + 4 * q + 2)) (fun q => Xs (80 * t + 4 * q + 3)) q9).toNat j) (fun q9 => mlA (fun q => Xs (80 * t + 4 * q + 1)) (fun q => Xs (80 * t + 4 * q + 2)) (fun q => Xs (80 * t + 4 * q + 3)) j q9) e1) ∧ po2 j = (mlB (fun q9 => tkq (chI (Ra 0) (Ra 1) (fun s1 q => Va (8 * s1 + q)) (fun q => Xs (80 * t + 4 * q)) (fun q => Xs (80 * t + 4 * q + 1)) (fun q => Xs (80 * t + 4 * q + 2)) (fun q => Xs (80 * t + 4 * q + 3)) q9).toNat j) (fun q9 => mlA (fun q => Xs (80 * t + 4 * q + 1)) (fun q => Xs (80 * t + 4 * q + 2)) (fun q => Xs (80 * t + 4 * q + 3)) j q9) e1) + (mlM (fun q9 => tkq (chI (Ra 0) (Ra 1) (fun s1 q => Va (8 * s1 + q)) (fun q => Xs (80 * t + 4 * q)) (fun q => Xs (80 * t + 4 * q + 1)) (fun q => Xs (80 * t + 4 * q + 2)) (fun q => Xs (80 * t + 4 * q + 3)) q9).toNat j) (fun q9 => mlA (fun q => Xs (80 * t + 4 * q + 1)) (fun q => Xs (80 * t + 4 * q + 2)) (fun q => Xs (80 * t + 4 * q + 3)) j q9) e1) + mlA (fun q => Xs (80 * t + 4 * q + 1)) (fun q => Xs (80 * t + 4 * q + 2)) (fun q => Xs (80 * t + 4 * q + 3)) j e1)) → (∀ j, j ≠ (y + 19) → j ≠ (y + 20) → j ≠ (y + 21) → j ≠ (y + 22) → j ≠ (y + 24) → j ≠ (y + 25) → w18 j = w j) → w18 y = .inr (7, [.int (iI 0), .ref (ad (y + 1)), .ref (ad (y + 2)), .ref (ad (y + 3)), .ref (ad (y + 4)), .ref (ad (y + 5)), .ref (ad (y + 6)), .ref (ad (y + 7)), .ref (ad (y + 8)), .ref (ad (y + 9)), .ref (ad (y + 10)), .ref (ad (y + 11)), .ref (ad (y + 12)), .ref (ad (y + 13)), .ref (ad (y + 14)), .ref (ad (y + 15)), .ref (ad (y + 16)), .ref (ad (y + 17)), .ref (ad (y + 18)), .ref (ad (y + 19)), .ref (ad (y + 20)), .ref (ad (y + 21)), .ref (ad (y + 22)), .ref (ad (y + 23)), .ref (ad (y + 24)), .ref (ad (y + 25)), .ref (ad (y + 26))]) → w18 (y + 1) = aI G 8 (fun q => (Co q : Int)) → w18 (y + 2) = aI G 64 (fun q => (Va q : Int)) → w18 (y + 3) = aI G 8 (fun q => (Ra q : Int)) → w18 (y + 13) = aI G 16 (fun q => (Ex q : Int)) → w18 (y + 17) = aI G 1280 (fun q => (Xs q : Int)) → w18 (y + 19) = aI G 8 (fun q => (B q : Int)) → w18 (y + 20) = aI G 18009 Fw → w18 (y + 21) = aI G 8 (fun q => (tk1 q : Int)) → w18 (y + 22) = aI G 8 (fun q => (bd1 q : Int)) → w18 (y + 24) = aI G 8 po2 → w18 (y + 25) = aI G 8 wa2 → va_P G.1 vwCl (nL N ad w18) H → va_S (nA N ad s.heap.size) s.heap H locs → lv_has ls 8 [(0, .ref (ad y)), (1, .int (iI ((t : Nat) : Int))), (2, .int (iI ((e1 : Nat) : Int))), (3, .int (iI ((80 * t + 4 * e1 : Nat) : Int))), (4, .int (iI (spI (Ra 0) (Ra 1) (fun s1 q => Va (8 * s1 + q)) (fun q => Xs (80 * t + 4 * q)) (fun q => Xs (80 * t + 4 * q + 1)) (fun q => Xs (80 * t + 4 * q + 2)) (fun q => Xs (80 * t + 4 * q + 3)) e1))), (5, .int (iI (((chI (Ra 0) (Ra 1) (fun s1 q => Va (8 * s1 + q)) (fun q => Xs (80 * t + 4 * q)) (fun q => Xs (80 * t + 4 * q + 1)) (fun q => Xs (80 * t + 4 * q + 2)) (fun q => Xs (80 * t + 4 * q + 3)) e1).toNat : Nat) : Int))), (6, .int (iI ((k : Nat) : Int)))] → W p l e ({ frames := 2, cells := 0, slots := 0, locals := 53 } : Room) s m ([.ref (ad y), .int (iI ((t : Nat) : Int))] : List Value).toArray below meth cd H locs 0 0 Q (F0 m 167 ls []) := by
                        intro fu
                        induction fu with
                        | zero =>
                          intro k po2 wa2 w18 H locs ls hfu hk hkk hfr f_y f_Co f_Va f_Ra f_Ex f_Xs f_by f_fw f_tk f_bd f_po f_wa hP hS hl
                          exact absurd hfu (Nat.not_lt_zero _)
                        | succ fu ih19 =>
                          intro k po2 wa2 w18 H locs ls hfu hk hkk hfr f_y f_Co f_Va f_Ra f_Ex f_Xs f_by f_fw f_tk f_bd f_po f_wa hP hS hl
                          refine lv_iload hx hb dX7_findWanted_167 (lv_at hl 6 rfl) ?_
                          refine lv_aload_n hx hb dX7_findWanted_169 rfl (lv_at hl 0 rfl) ?_
                          refine n_get hx hb hts u_X7 hown hK hP (by omega) f_y rfl 1 (by decide) (nT_m wf_X7_7) rfl dX7_findWanted_170 ?_
                          refine n_iconst hx hb dX7_findWanted_173 ?_
                          refine n_iald hx hb hK hP 1 (by omega) f_Co (by omega) (by omega) (by decide) dX7_findWanted_174 ?_
                          have ho20 := hCo 1 (by omega)
                          refine n_icmp_ge (tgt := 254) hx hb dX7_findWanted_175 (by decide) (by omega) (by omega) (fun hc175 => ?_) (fun hc175 => ?_)
                          · skip
                            refine lv_iinc (v := iI (((e1 : Nat) : Int) + 1)) (lv' := [(2, .int (iI (((e1 : Nat) : Int) + 1))), (0, .ref (ad y)), (1, .int (iI ((t : Nat) : Int))), (3, .int (iI ((80 * t + 4 * e1 : Nat) : Int))), (4, .int (iI (spI (Ra 0) (Ra 1) (fun s1 q => Va (8 * s1 + q)) (fun q => Xs (80 * t + 4 * q)) (fun q => Xs (80 * t + 4 * q + 1)) (fun q => Xs (80 * t + 4 * q + 2)) (fun q => Xs (80 * t + 4 * q + 3)) e1))), (5, .int (iI (((chI (Ra 0) (Ra 1) (fun s1 q => Va (8 * s1 + q)) (fun q => Xs (80 * t + 4 * q)) (fun q => Xs (80 * t + 4 * q + 1)) (fun q => Xs (80 * t + 4 * q + 2)) (fun q => Xs (80 * t + 4 * q + 3)) e1).toNat : Nat) : Int))), (6, .int (iI ((k : Nat) : Int)))]) hx hb dX7_findWanted_254 hl (k := 2) rfl (by first | exact iI_add _ _ | exact (iI_add _ _).trans (congrArg iI (by omega))) (by decide) rfl (fun ls hl => ?_)
                            refine lv_goto (tgt := 30) hx hb dX7_findWanted_257 (by decide) ?_
                            exact ih6 (e1 + 1) B bd1 tk1 Fw po2 wa2 _ _ _ _ (by omega) (by omega) (allB_t hall (decide_eq_true ⟨by omega, hls⟩)) (fun q h9 => (Decidable.em (q = e1)).elim (fun e9 => by rw [e9]; omega) (fun e9 => hch q (by omega))) (fun j hj9 => (hkk j hj9).1 (by omega)) hfr f_y f_Co f_Va f_Ra f_Ex f_Xs f_by f_fw f_tk f_bd f_po f_wa hP hS (by first | exact lv_sub hl [1, 2, 0] rfl | exact lv_cast (lv_sub (l' := [(0, .ref (ad y)), (1, .int (iI ((t : Nat) : Int))), (2, .int (iI (((e1 : Nat) : Int) + 1)))]) hl [1, 2, 0] rfl) (lc_s (lc_s (lc_i (show ((((e1 : Nat) : Int) + 1) : Int) = (((e1 + 1) : Nat) : Int) by omega) rfl))))
                          · skip
                            have hk0 := (hkk k (by omega)).2 (Nat.le_refl _)
                            have hm9 := hmr k
                            have ht9 := htkk k (by omega)
                            have ht8 := htr (chI (Ra 0) (Ra 1) (fun s1 q => Va (8 * s1 + q)) (fun q => Xs (80 * t + 4 * q)) (fun q => Xs (80 * t + 4 * q + 1)) (fun q => Xs (80 * t + 4 * q + 2)) (fun q => Xs (80 * t + 4 * q + 3)) e1).toNat k (by omega)
                            have ha9 : 0 ≤ mlA (fun q => Xs (80 * t + 4 * q + 1)) (fun q => Xs (80 * t + 4 * q + 2)) (fun q => Xs (80 * t + 4 * q + 3)) k e1 ∧ mlA (fun q => Xs (80 * t + 4 * q + 1)) (fun q => Xs (80 * t + 4 * q + 2)) (fun q => Xs (80 * t + 4 * q + 3)) k e1 ≤ 50 := by unfold mlA; split; exact ⟨by omega, by show ((Xs (80 * t + 4 * e1 + 3) : Nat) : Int) ≤ 50; omega⟩; exact ⟨by omega, by omega⟩
                            refine lv_aload_n hx hb dX7_findWanted_178 rfl (lv_at hl 0 rfl) ?_
                            refine n_get hx hb hts u_X7 hown hK hP (by omega) f_y rfl 21 (by decide) (nT_m wf_X7_71) rfl dX7_findWanted_179 ?_
                            refine lv_iload hx hb dX7_findWanted_182 (lv_at hl 6 rfl) ?_
                            refine n_iald hx hb hK hP k (by omega) f_tk (by omega) (by omega) (by decide) dX7_findWanted_184 ?_
                            refine lv_aload_n hx hb dX7_findWanted_185 rfl (lv_at hl 0 rfl) ?_
                            refine n_get hx hb hts u_X7 hown hK hP (by omega) f_y rfl 24 (by decide) (nT_m wf_X7_80) rfl dX7_findWanted_186 ?_
                            refine lv_iload hx hb dX7_findWanted_189 (lv_at hl 6 rfl) ?_
                            refine n_iald hx hb hK hP k (by omega) f_po (by omega) (by omega) (by decide) dX7_findWanted_191 ?_
                            refine n_icmp_le (tgt := 213) hx hb dX7_findWanted_192 (by decide) (by omega) (by omega) (fun hc192 => ?_) (fun hc192 => ?_)
                            · skip
                              refine n_iconst hx hb dX7_findWanted_213 ?_
                              refine lv_istore (lv' := [(7, .int (iI 0)), (0, .ref (ad y)), (1, .int (iI ((t : Nat) : Int))), (2, .int (iI ((e1 : Nat) : Int))), (3, .int (iI ((80 * t + 4 * e1 : Nat) : Int))), (4, .int (iI (spI (Ra 0) (Ra 1) (fun s1 q => Va (8 * s1 + q)) (fun q => Xs (80 * t + 4 * q)) (fun q => Xs (80 * t + 4 * q + 1)) (fun q => Xs (80 * t + 4 * q + 2)) (fun q => Xs (80 * t + 4 * q + 3)) e1))), (5, .int (iI (((chI (Ra 0) (Ra 1) (fun s1 q => Va (8 * s1 + q)) (fun q => Xs (80 * t + 4 * q)) (fun q => Xs (80 * t + 4 * q + 1)) (fun q => Xs (80 * t + 4 * q + 2)) (fun q => Xs (80 * t + 4 * q + 3)) e1).toNat : Nat) : Int))), (6, .int (iI ((k : Nat) : Int)))]) hx hb dX7_findWanted_214 hl (by decide) rfl (fun ls hl => ?_)
                              refine lv_aload_n hx hb dX7_findWanted_216 rfl (lv_at hl 1 rfl) ?_
                              refine n_get hx hb hts u_X7 hown hK hP (by omega) f_y rfl 25 (by decide) (nT_m wf_X7_83) rfl dX7_findWanted_217 ?_
                              refine lv_iload hx hb dX7_findWanted_220 (lv_at hl 7 rfl) ?_
                              refine lv_dup2_11 hx hb dX7_findWanted_222 rfl rfl ?_
                              refine n_iald hx hb hK hP k (by omega) f_wa (by omega) (by omega) (by decide) dX7_findWanted_223 ?_
                              refine lv_iload hx hb dX7_findWanted_224 (lv_at hl 0 rfl) ?_
                              refine n_iadd hx hb dX7_findWanted_226 ?_
                              refine n_iast hx hb hK hJ hP hS k (by omega) f_wa (by omega) (by omega) (by decide) dX7_findWanted_227 (fun w21 H locs f_wa hne22 hP hS => ?_)
                              have f_y := (hne22 y (by omega)).trans f_y
                              have f_Co := (hne22 (y + 1) (by omega)).trans f_Co
                              have f_Va := (hne22 (y + 2) (by omega)).trans f_Va
                              have f_Ra := (hne22 (y + 3) (by omega)).trans f_Ra
                              have f_Ex := (hne22 (y + 13) (by omega)).trans f_Ex
                              have f_Xs := (hne22 (y + 17) (by omega)).trans f_Xs
                              have f_by := (hne22 (y + 19) (by omega)).trans f_by
                              have f_fw := (hne22 (y + 20) (by omega)).trans f_fw
                              have f_tk := (hne22 (y + 21) (by omega)).trans f_tk
                              have f_bd := (hne22 (y + 22) (by omega)).trans f_bd
                              have f_po := (hne22 (y + 24) (by omega)).trans f_po
                              have hfr : ∀ j, j ≠ (y + 19) → j ≠ (y + 20) → j ≠ (y + 21) → j ≠ (y + 22) → j ≠ (y + 24) → j ≠ (y + 25) → w21 j = w j := fun j a0 a1 a2 a3 a4 a5 => (hne22 j (by omega)).trans (hfr j a0 a1 a2 a3 a4 a5)
                              refine lv_aload_n hx hb dX7_findWanted_228 rfl (lv_at hl 1 rfl) ?_
                              refine n_get hx hb hts u_X7 hown hK hP (by omega) f_y rfl 24 (by decide) (nT_m wf_X7_80) rfl dX7_findWanted_229 ?_
                              refine lv_iload hx hb dX7_findWanted_232 (lv_at hl 7 rfl) ?_
                              refine lv_dup2_11 hx hb dX7_findWanted_234 rfl rfl ?_
                              refine n_iald hx hb hK hP k (by omega) f_po (by omega) (by omega) (by decide) dX7_findWanted_235 ?_
                              refine lv_iload hx hb dX7_findWanted_236 (lv_at hl 0 rfl) ?_
                              refine lv_aload_n hx hb dX7_findWanted_238 rfl (lv_at hl 1 rfl) ?_
                              refine n_get hx hb hts u_X7 hown hK hP (by omega) f_y rfl 21 (by decide) (nT_m wf_X7_71) rfl dX7_findWanted_239 ?_
                              refine lv_iload hx hb dX7_findWanted_242 (lv_at hl 7 rfl) ?_
                              refine n_iald hx hb hK hP k (by omega) f_tk (by omega) (by omega) (by decide) dX7_findWanted_244 ?_
                              refine n_isub hx hb dX7_findWanted_245 ?_
                              refine n_iadd hx hb dX7_findWanted_246 ?_
                              refine n_iast hx hb hK hJ hP hS k (by omega) f_po (by omega) (by omega) (by decide) dX7_findWanted_247 (fun w23 H locs f_po hne24 hP hS => ?_)
                              have f_y := (hne24 y (by omega)).trans f_y
                              have f_Co := (hne24 (y + 1) (by omega)).trans f_Co
                              have f_Va := (hne24 (y + 2) (by omega)).trans f_Va
                              have f_Ra := (hne24 (y + 3) (by omega)).trans f_Ra
                              have f_Ex := (hne24 (y + 13) (by omega)).trans f_Ex
                              have f_Xs := (hne24 (y + 17) (by omega)).trans f_Xs
                              have f_by := (hne24 (y + 19) (by omega)).trans f_by
                              have f_fw := (hne24 (y + 20) (by omega)).trans f_fw
                              have f_tk := (hne24 (y + 21) (by omega)).trans f_tk
                              have f_bd := (hne24 (y + 22) (by omega)).trans f_bd
                              have f_wa := (hne24 (y + 25) (by omega)).trans f_wa
                              have hfr : ∀ j, j ≠ (y + 19) → j ≠ (y + 20) → j ≠ (y + 21) → j ≠ (y + 22) → j ≠ (y + 24) → j ≠ (y + 25) → w23 j = w j := fun j a0 a1 a2 a3 a4 a5 => (hne24 j (by omega)).trans (hfr j a0 a1 a2 a3 a4 a5)
                              refine lv_iinc (v := iI (((k : Nat) : Int) + 1)) (lv' := [(6, .int (iI (((k : Nat) : Int) + 1))), (7, .int (iI 0)), (0, .ref (ad y)), (1, .int (iI ((t : Nat) : Int))), (2, .int (iI ((e1 : Nat) : Int))), (3, .int (iI ((80 * t + 4 * e1 : Nat) : Int))), (4, .int (iI (spI (Ra 0) (Ra 1) (fun s1 q => Va (8 * s1 + q)) (fun q => Xs (80 * t + 4 * q)) (fun q => Xs (80 * t + 4 * q + 1)) (fun q => Xs (80 * t + 4 * q + 2)) (fun q => Xs (80 * t + 4 * q + 3)) e1))), (5, .int (iI (((chI (Ra 0) (Ra 1) (fun s1 q => Va (8 * s1 + q)) (fun q => Xs (80 * t + 4 * q)) (fun q => Xs (80 * t + 4 * q + 1)) (fun q => Xs (80 * t + 4 * q + 2)) (fun q => Xs (80 * t + 4 * q + 3)) e1).toNat : Nat) : Int)))]) hx hb dX7_findWanted_248 hl (k := 7) rfl (by first | exact iI_add _ _ | exact (iI_add _ _).trans (congrArg iI (by omega))) (by decide) rfl (fun ls hl => ?_)
                              refine lv_goto (tgt := 167) hx hb dX7_findWanted_251 (by decide) ?_
                              have eB : (mlB (fun q9 => tkq (chI (Ra 0) (Ra 1) (fun s1 q => Va (8 * s1 + q)) (fun q => Xs (80 * t + 4 * q)) (fun q => Xs (80 * t + 4 * q + 1)) (fun q => Xs (80 * t + 4 * q + 2)) (fun q => Xs (80 * t + 4 * q + 3)) q9).toNat k) (fun q9 => mlA (fun q => Xs (80 * t + 4 * q + 1)) (fun q => Xs (80 * t + 4 * q + 2)) (fun q => Xs (80 * t + 4 * q + 3)) k q9) (e1 + 1)) = (mlB (fun q9 => tkq (chI (Ra 0) (Ra 1) (fun s1 q => Va (8 * s1 + q)) (fun q => Xs (80 * t + 4 * q)) (fun q => Xs (80 * t + 4 * q + 1)) (fun q => Xs (80 * t + 4 * q + 2)) (fun q => Xs (80 * t + 4 * q + 3)) q9).toNat k) (fun q9 => mlA (fun q => Xs (80 * t + 4 * q + 1)) (fun q => Xs (80 * t + 4 * q + 2)) (fun q => Xs (80 * t + 4 * q + 3)) k q9) e1) + mlA (fun q => Xs (80 * t + 4 * q + 1)) (fun q => Xs (80 * t + 4 * q + 2)) (fun q => Xs (80 * t + 4 * q + 3)) k e1 - tkq (chI (Ra 0) (Ra 1) (fun s1 q => Va (8 * s1 + q)) (fun q => Xs (80 * t + 4 * q)) (fun q => Xs (80 * t + 4 * q + 1)) (fun q => Xs (80 * t + 4 * q + 2)) (fun q => Xs (80 * t + 4 * q + 3)) e1).toNat k := rfl
                              have eM : (mlM (fun q9 => tkq (chI (Ra 0) (Ra 1) (fun s1 q => Va (8 * s1 + q)) (fun q => Xs (80 * t + 4 * q)) (fun q => Xs (80 * t + 4 * q + 1)) (fun q => Xs (80 * t + 4 * q + 2)) (fun q => Xs (80 * t + 4 * q + 3)) q9).toNat k) (fun q9 => mlA (fun q => Xs (80 * t + 4 * q + 1)) (fun q => Xs (80 * t + 4 * q + 2)) (fun q => Xs (80 * t + 4 * q + 3)) k q9) (e1 + 1)) = max (mlM (fun q9 => tkq (chI (Ra 0) (Ra 1) (fun s1 q => Va (8 * s1 + q)) (fun q => Xs (80 * t + 4 * q)) (fun q => Xs (80 * t + 4 * q + 1)) (fun q => Xs (80 * t + 4 * q + 2)) (fun q => Xs (80 * t + 4 * q + 3)) q9).toNat k) (fun q9 => mlA (fun q => Xs (80 * t + 4 * q + 1)) (fun q => Xs (80 * t + 4 * q + 2)) (fun q => Xs (80 * t + 4 * q + 3)) k q9) e1) (-(mlB (fun q9 => tkq (chI (Ra 0) (Ra 1) (fun s1 q => Va (8 * s1 + q)) (fun q => Xs (80 * t + 4 * q)) (fun q => Xs (80 * t + 4 * q + 1)) (fun q => Xs (80 * t + 4 * q + 2)) (fun q => Xs (80 * t + 4 * q + 3)) q9).toNat k) (fun q9 => mlA (fun q => Xs (80 * t + 4 * q + 1)) (fun q => Xs (80 * t + 4 * q + 2)) (fun q => Xs (80 * t + 4 * q + 3)) k q9) (e1 + 1))) := rfl
                              exact ih19 (k + 1) (va_up po2 k (po2 k + (0 - ((tk1 k : Nat) : Int)))) (va_up wa2 k (wa2 k + 0)) _ _ _ _ (by omega) (by omega) (fun j hj9 => (Decidable.em (j = k)).elim (fun e9 => by subst e9; rw [va_up_self, va_up_self]; refine ⟨fun _ => ?_, fun h9 => absurd h9 (by omega)⟩; rw [eM, eB]; omega) (fun e9 => by rw [va_up_ne _ _ e9, va_up_ne _ _ e9]; exact ⟨fun h9 => (hkk j hj9).1 (by omega), fun h9 => (hkk j hj9).2 (by omega)⟩)) hfr f_y f_Co f_Va f_Ra f_Ex f_Xs f_by f_fw f_tk f_bd f_po f_wa hP hS (by first | exact lv_sub hl [2, 3, 4, 5, 6, 7, 0] rfl | exact lv_cast (lv_sub (l' := [(0, .ref (ad y)), (1, .int (iI ((t : Nat) : Int))), (2, .int (iI ((e1 : Nat) : Int))), (3, .int (iI ((80 * t + 4 * e1 : Nat) : Int))), (4, .int (iI (spI (Ra 0) (Ra 1) (fun s1 q => Va (8 * s1 + q)) (fun q => Xs (80 * t + 4 * q)) (fun q => Xs (80 * t + 4 * q + 1)) (fun q => Xs (80 * t + 4 * q + 2)) (fun q => Xs (80 * t + 4 * q + 3)) e1))), (5, .int (iI (((chI (Ra 0) (Ra 1) (fun s1 q => Va (8 * s1 + q)) (fun q => Xs (80 * t + 4 * q)) (fun q => Xs (80 * t + 4 * q + 1)) (fun q => Xs (80 * t + 4 * q + 2)) (fun q => Xs (80 * t + 4 * q + 3)) e1).toNat : Nat) : Int))), (6, .int (iI (((k : Nat) : Int) + 1)))]) hl [2, 3, 4, 5, 6, 7, 0] rfl) (lc_s (lc_s (lc_s (lc_s (lc_s (lc_s (lc_i (show ((((k : Nat) : Int) + 1) : Int) = (((k + 1) : Nat) : Int) by omega) rfl))))))))
                            · skip
                              refine lv_aload_n hx hb dX7_findWanted_195 rfl (lv_at hl 0 rfl) ?_
                              refine n_get hx hb hts u_X7 hown hK hP (by omega) f_y rfl 21 (by decide) (nT_m wf_X7_71) rfl dX7_findWanted_196 ?_
                              refine lv_iload hx hb dX7_findWanted_199 (lv_at hl 6 rfl) ?_
                              refine n_iald hx hb hK hP k (by omega) f_tk (by omega) (by omega) (by decide) dX7_findWanted_201 ?_
                              refine lv_aload_n hx hb dX7_findWanted_202 rfl (lv_at hl 0 rfl) ?_
                              refine n_get hx hb hts u_X7 hown hK hP (by omega) f_y rfl 24 (by decide) (nT_m wf_X7_80) rfl dX7_findWanted_203 ?_
                              refine lv_iload hx hb dX7_findWanted_206 (lv_at hl 6 rfl) ?_
                              refine n_iald hx hb hK hP k (by omega) f_po (by omega) (by omega) (by decide) dX7_findWanted_208 ?_
                              refine n_isub hx hb dX7_findWanted_209 ?_
                              refine lv_goto (tgt := 214) hx hb dX7_findWanted_210 (by decide) ?_
                              refine lv_istore (lv' := [(7, .int (iI ((tk1 k : Int) - po2 k))), (0, .ref (ad y)), (1, .int (iI ((t : Nat) : Int))), (2, .int (iI ((e1 : Nat) : Int))), (3, .int (iI ((80 * t + 4 * e1 : Nat) : Int))), (4, .int (iI (spI (Ra 0) (Ra 1) (fun s1 q => Va (8 * s1 + q)) (fun q => Xs (80 * t + 4 * q)) (fun q => Xs (80 * t + 4 * q + 1)) (fun q => Xs (80 * t + 4 * q + 2)) (fun q => Xs (80 * t + 4 * q + 3)) e1))), (5, .int (iI (((chI (Ra 0) (Ra 1) (fun s1 q => Va (8 * s1 + q)) (fun q => Xs (80 * t + 4 * q)) (fun q => Xs (80 * t + 4 * q + 1)) (fun q => Xs (80 * t + 4 * q + 2)) (fun q => Xs (80 * t + 4 * q + 3)) e1).toNat : Nat) : Int))), (6, .int (iI ((k : Nat) : Int)))]) hx hb dX7_findWanted_214 hl (by decide) rfl (fun ls hl => ?_)
                              refine lv_aload_n hx hb dX7_findWanted_216 rfl (lv_at hl 1 rfl) ?_
                              refine n_get hx hb hts u_X7 hown hK hP (by omega) f_y rfl 25 (by decide) (nT_m wf_X7_83) rfl dX7_findWanted_217 ?_
                              refine lv_iload hx hb dX7_findWanted_220 (lv_at hl 7 rfl) ?_
                              refine lv_dup2_11 hx hb dX7_findWanted_222 rfl rfl ?_
                              refine n_iald hx hb hK hP k (by omega) f_wa (by omega) (by omega) (by decide) dX7_findWanted_223 ?_
                              refine lv_iload hx hb dX7_findWanted_224 (lv_at hl 0 rfl) ?_
                              refine n_iadd hx hb dX7_findWanted_226 ?_
                              refine n_iast hx hb hK hJ hP hS k (by omega) f_wa (by omega) (by omega) (by decide) dX7_findWanted_227 (fun w25 H locs f_wa hne26 hP hS => ?_)
                              have f_y := (hne26 y (by omega)).trans f_y
                              have f_Co := (hne26 (y + 1) (by omega)).trans f_Co
                              have f_Va := (hne26 (y + 2) (by omega)).trans f_Va
                              have f_Ra := (hne26 (y + 3) (by omega)).trans f_Ra
                              have f_Ex := (hne26 (y + 13) (by omega)).trans f_Ex
                              have f_Xs := (hne26 (y + 17) (by omega)).trans f_Xs
                              have f_by := (hne26 (y + 19) (by omega)).trans f_by
                              have f_fw := (hne26 (y + 20) (by omega)).trans f_fw
                              have f_tk := (hne26 (y + 21) (by omega)).trans f_tk
                              have f_bd := (hne26 (y + 22) (by omega)).trans f_bd
                              have f_po := (hne26 (y + 24) (by omega)).trans f_po
                              have hfr : ∀ j, j ≠ (y + 19) → j ≠ (y + 20) → j ≠ (y + 21) → j ≠ (y + 22) → j ≠ (y + 24) → j ≠ (y + 25) → w25 j = w j := fun j a0 a1 a2 a3 a4 a5 => (hne26 j (by omega)).trans (hfr j a0 a1 a2 a3 a4 a5)
                              refine lv_aload_n hx hb dX7_findWanted_228 rfl (lv_at hl 1 rfl) ?_
                              refine n_get hx hb hts u_X7 hown hK hP (by omega) f_y rfl 24 (by decide) (nT_m wf_X7_80) rfl dX7_findWanted_229 ?_
                              refine lv_iload hx hb dX7_findWanted_232 (lv_at hl 7 rfl) ?_
                              refine lv_dup2_11 hx hb dX7_findWanted_234 rfl rfl ?_
                              refine n_iald hx hb hK hP k (by omega) f_po (by omega) (by omega) (by decide) dX7_findWanted_235 ?_
                              refine lv_iload hx hb dX7_findWanted_236 (lv_at hl 0 rfl) ?_
                              refine lv_aload_n hx hb dX7_findWanted_238 rfl (lv_at hl 1 rfl) ?_
                              refine n_get hx hb hts u_X7 hown hK hP (by omega) f_y rfl 21 (by decide) (nT_m wf_X7_71) rfl dX7_findWanted_239 ?_
                              refine lv_iload hx hb dX7_findWanted_242 (lv_at hl 7 rfl) ?_
                              refine n_iald hx hb hK hP k (by omega) f_tk (by omega) (by omega) (by decide) dX7_findWanted_244 ?_
                              refine n_isub hx hb dX7_findWanted_245 ?_
                              refine n_iadd hx hb dX7_findWanted_246 ?_
                              refine n_iast hx hb hK hJ hP hS k (by omega) f_po (by omega) (by omega) (by decide) dX7_findWanted_247 (fun w27 H locs f_po hne28 hP hS => ?_)
                              have f_y := (hne28 y (by omega)).trans f_y
                              have f_Co := (hne28 (y + 1) (by omega)).trans f_Co
                              have f_Va := (hne28 (y + 2) (by omega)).trans f_Va
                              have f_Ra := (hne28 (y + 3) (by omega)).trans f_Ra
                              have f_Ex := (hne28 (y + 13) (by omega)).trans f_Ex
                              have f_Xs := (hne28 (y + 17) (by omega)).trans f_Xs
                              have f_by := (hne28 (y + 19) (by omega)).trans f_by
                              have f_fw := (hne28 (y + 20) (by omega)).trans f_fw
                              have f_tk := (hne28 (y + 21) (by omega)).trans f_tk
                              have f_bd := (hne28 (y + 22) (by omega)).trans f_bd
                              have f_wa := (hne28 (y + 25) (by omega)).trans f_wa
                              have hfr : ∀ j, j ≠ (y + 19) → j ≠ (y + 20) → j ≠ (y + 21) → j ≠ (y + 22) → j ≠ (y + 24) → j ≠ (y + 25) → w27 j = w j := fun j a0 a1 a2 a3 a4 a5 => (hne28 j (by omega)).trans (hfr j a0 a1 a2 a3 a4 a5)
                              refine lv_iinc (v := iI (((k : Nat) : Int) + 1)) (lv' := [(6, .int (iI (((k : Nat) : Int) + 1))), (7, .int (iI ((tk1 k : Int) - po2 k))), (0, .ref (ad y)), (1, .int (iI ((t : Nat) : Int))), (2, .int (iI ((e1 : Nat) : Int))), (3, .int (iI ((80 * t + 4 * e1 : Nat) : Int))), (4, .int (iI (spI (Ra 0) (Ra 1) (fun s1 q => Va (8 * s1 + q)) (fun q => Xs (80 * t + 4 * q)) (fun q => Xs (80 * t + 4 * q + 1)) (fun q => Xs (80 * t + 4 * q + 2)) (fun q => Xs (80 * t + 4 * q + 3)) e1))), (5, .int (iI (((chI (Ra 0) (Ra 1) (fun s1 q => Va (8 * s1 + q)) (fun q => Xs (80 * t + 4 * q)) (fun q => Xs (80 * t + 4 * q + 1)) (fun q => Xs (80 * t + 4 * q + 2)) (fun q => Xs (80 * t + 4 * q + 3)) e1).toNat : Nat) : Int)))]) hx hb dX7_findWanted_248 hl (k := 7) rfl (by first | exact iI_add _ _ | exact (iI_add _ _).trans (congrArg iI (by omega))) (by decide) rfl (fun ls hl => ?_)
                              refine lv_goto (tgt := 167) hx hb dX7_findWanted_251 (by decide) ?_
                              have eB : (mlB (fun q9 => tkq (chI (Ra 0) (Ra 1) (fun s1 q => Va (8 * s1 + q)) (fun q => Xs (80 * t + 4 * q)) (fun q => Xs (80 * t + 4 * q + 1)) (fun q => Xs (80 * t + 4 * q + 2)) (fun q => Xs (80 * t + 4 * q + 3)) q9).toNat k) (fun q9 => mlA (fun q => Xs (80 * t + 4 * q + 1)) (fun q => Xs (80 * t + 4 * q + 2)) (fun q => Xs (80 * t + 4 * q + 3)) k q9) (e1 + 1)) = (mlB (fun q9 => tkq (chI (Ra 0) (Ra 1) (fun s1 q => Va (8 * s1 + q)) (fun q => Xs (80 * t + 4 * q)) (fun q => Xs (80 * t + 4 * q + 1)) (fun q => Xs (80 * t + 4 * q + 2)) (fun q => Xs (80 * t + 4 * q + 3)) q9).toNat k) (fun q9 => mlA (fun q => Xs (80 * t + 4 * q + 1)) (fun q => Xs (80 * t + 4 * q + 2)) (fun q => Xs (80 * t + 4 * q + 3)) k q9) e1) + mlA (fun q => Xs (80 * t + 4 * q + 1)) (fun q => Xs (80 * t + 4 * q + 2)) (fun q => Xs (80 * t + 4 * q + 3)) k e1 - tkq (chI (Ra 0) (Ra 1) (fun s1 q => Va (8 * s1 + q)) (fun q => Xs (80 * t + 4 * q)) (fun q => Xs (80 * t + 4 * q + 1)) (fun q => Xs (80 * t + 4 * q + 2)) (fun q => Xs (80 * t + 4 * q + 3)) e1).toNat k := rfl
                              have eM : (mlM (fun q9 => tkq (chI (Ra 0) (Ra 1) (fun s1 q => Va (8 * s1 + q)) (fun q => Xs (80 * t + 4 * q)) (fun q => Xs (80 * t + 4 * q + 1)) (fun q => Xs (80 * t + 4 * q + 2)) (fun q => Xs (80 * t + 4 * q + 3)) q9).toNat k) (fun q9 => mlA (fun q => Xs (80 * t + 4 * q + 1)) (fun q => Xs (80 * t + 4 * q + 2)) (fun q => Xs (80 * t + 4 * q + 3)) k q9) (e1 + 1)) = max (mlM (fun q9 => tkq (chI (Ra 0) (Ra 1) (fun s1 q => Va (8 * s1 + q)) (fun q => Xs (80 * t + 4 * q)) (fun q => Xs (80 * t + 4 * q + 1)) (fun q => Xs (80 * t + 4 * q + 2)) (fun q => Xs (80 * t + 4 * q + 3)) q9).toNat k) (fun q9 => mlA (fun q => Xs (80 * t + 4 * q + 1)) (fun q => Xs (80 * t + 4 * q + 2)) (fun q => Xs (80 * t + 4 * q + 3)) k q9) e1) (-(mlB (fun q9 => tkq (chI (Ra 0) (Ra 1) (fun s1 q => Va (8 * s1 + q)) (fun q => Xs (80 * t + 4 * q)) (fun q => Xs (80 * t + 4 * q + 1)) (fun q => Xs (80 * t + 4 * q + 2)) (fun q => Xs (80 * t + 4 * q + 3)) q9).toNat k) (fun q9 => mlA (fun q => Xs (80 * t + 4 * q + 1)) (fun q => Xs (80 * t + 4 * q + 2)) (fun q => Xs (80 * t + 4 * q + 3)) k q9) (e1 + 1))) := rfl
                              exact ih19 (k + 1) (va_up po2 k (po2 k + ((((tk1 k : Nat) : Int) - po2 k) - ((tk1 k : Nat) : Int)))) (va_up wa2 k (wa2 k + (((tk1 k : Nat) : Int) - po2 k))) _ _ _ _ (by omega) (by omega) (fun j hj9 => (Decidable.em (j = k)).elim (fun e9 => by subst e9; rw [va_up_self, va_up_self]; refine ⟨fun _ => ?_, fun h9 => absurd h9 (by omega)⟩; rw [eM, eB]; omega) (fun e9 => by rw [va_up_ne _ _ e9, va_up_ne _ _ e9]; exact ⟨fun h9 => (hkk j hj9).1 (by omega), fun h9 => (hkk j hj9).2 (by omega)⟩)) hfr f_y f_Co f_Va f_Ra f_Ex f_Xs f_by f_fw f_tk f_bd f_po f_wa hP hS (by first | exact lv_sub hl [2, 3, 4, 5, 6, 7, 0] rfl | exact lv_cast (lv_sub (l' := [(0, .ref (ad y)), (1, .int (iI ((t : Nat) : Int))), (2, .int (iI ((e1 : Nat) : Int))), (3, .int (iI ((80 * t + 4 * e1 : Nat) : Int))), (4, .int (iI (spI (Ra 0) (Ra 1) (fun s1 q => Va (8 * s1 + q)) (fun q => Xs (80 * t + 4 * q)) (fun q => Xs (80 * t + 4 * q + 1)) (fun q => Xs (80 * t + 4 * q + 2)) (fun q => Xs (80 * t + 4 * q + 3)) e1))), (5, .int (iI (((chI (Ra 0) (Ra 1) (fun s1 q => Va (8 * s1 + q)) (fun q => Xs (80 * t + 4 * q)) (fun q => Xs (80 * t + 4 * q + 1)) (fun q => Xs (80 * t + 4 * q + 2)) (fun q => Xs (80 * t + 4 * q + 3)) e1).toNat : Nat) : Int))), (6, .int (iI (((k : Nat) : Int) + 1)))]) hl [2, 3, 4, 5, 6, 7, 0] rfl) (lc_s (lc_s (lc_s (lc_s (lc_s (lc_s (lc_i (show ((((k : Nat) : Int) + 1) : Int) = (((k + 1) : Nat) : Int) by omega) rfl))))))))
                      exact lp17 (Co 1 - 0 + 1) 0 po wa _ _ _ _ (Nat.lt_succ_self _) (by omega) (fun j hj9 => ⟨fun h9 => absurd h9 (Nat.not_lt_zero _), fun _ => ⟨(hw j hj9).1, by have h8 := (hw j hj9).2; rw [show mlA (fun q => Xs (80 * t + 4 * q + 1)) (fun q => Xs (80 * t + 4 * q + 2)) (fun q => Xs (80 * t + 4 * q + 3)) j e1 = 0 from if_neg (fun h7 => by have h6 : Xs (80 * t + 4 * e1 + 1) = 1 := h7.1; omega)]; omega⟩⟩) hfr f_y f_Co f_Va f_Ra f_Ex f_Xs f_by f_fw f_tk f_bd f_po f_wa hP hS (by first | exact lv_sub hl [4, 5, 6, 3, 2, 1, 0] rfl | exact lv_cast (lv_sub (l' := [(0, .ref (ad y)), (1, .int (iI ((t : Nat) : Int))), (2, .int (iI ((e1 : Nat) : Int))), (3, .int (iI ((80 * t + 4 * e1 : Nat) : Int))), (4, .int (iI (spI (Ra 0) (Ra 1) (fun s1 q => Va (8 * s1 + q)) (fun q => Xs (80 * t + 4 * q)) (fun q => Xs (80 * t + 4 * q + 1)) (fun q => Xs (80 * t + 4 * q + 2)) (fun q => Xs (80 * t + 4 * q + 3)) e1))), (5, .int (iI (((chI (Ra 0) (Ra 1) (fun s1 q => Va (8 * s1 + q)) (fun q => Xs (80 * t + 4 * q)) (fun q => Xs (80 * t + 4 * q + 1)) (fun q => Xs (80 * t + 4 * q + 2)) (fun q => Xs (80 * t + 4 * q + 3)) e1).toNat : Nat) : Int))), (6, .int (iI 0))]) hl [4, 5, 6, 3, 2, 1, 0] rfl) (lc_s (lc_s (lc_s (lc_s (lc_s (lc_s (lc_i (show (0 : Int) = ((0 : Nat) : Int) by omega) rfl))))))))
                    · skip
                      refine lv_aload_n hx hb dX7_findWanted_140 rfl (lv_at hl 3 rfl) ?_
                      refine n_get hx hb hts u_X7 hown hK hP (by omega) f_y rfl 24 (by decide) (nT_m wf_X7_80) rfl dX7_findWanted_141 ?_
                      refine lv_aload_n hx hb dX7_findWanted_144 rfl (lv_at hl 3 rfl) ?_
                      refine n_get hx hb hts u_X7 hown hK hP (by omega) f_y rfl 17 (by decide) (nT_m wf_X7_59) rfl dX7_findWanted_145 ?_
                      refine lv_iload_n hx hb dX7_findWanted_148 rfl (lv_at hl 2 rfl) ?_
                      refine n_iconst hx hb dX7_findWanted_149 ?_
                      refine n_iadd hx hb dX7_findWanted_150 ?_
                      refine n_iald hx hb hK hP (80 * t + 4 * e1 + 2) (by omega) f_Xs (by omega) (by omega) (by decide) dX7_findWanted_151 ?_
                      refine lv_dup2_11 hx hb dX7_findWanted_152 rfl rfl ?_
                      refine n_iald hx hb hK hP (Xs (80 * t + 4 * e1 + 2)) (by omega) f_po (by omega) (by omega) (by decide) dX7_findWanted_153 ?_
                      refine lv_aload_n hx hb dX7_findWanted_154 rfl (lv_at hl 3 rfl) ?_
                      refine n_get hx hb hts u_X7 hown hK hP (by omega) f_y rfl 17 (by decide) (nT_m wf_X7_59) rfl dX7_findWanted_155 ?_
                      refine lv_iload_n hx hb dX7_findWanted_158 rfl (lv_at hl 2 rfl) ?_
                      refine n_iconst hx hb dX7_findWanted_159 ?_
                      refine n_iadd hx hb dX7_findWanted_160 ?_
                      refine n_iald hx hb hK hP (80 * t + 4 * e1 + 3) (by omega) f_Xs (by omega) (by omega) (by decide) dX7_findWanted_161 ?_
                      refine n_iadd hx hb dX7_findWanted_162 ?_
                      refine n_iast hx hb hK hJ hP hS (Xs (80 * t + 4 * e1 + 2)) (by omega) f_po (by omega) (by omega) (by decide) dX7_findWanted_163 (fun w29 H locs f_po hne30 hP hS => ?_)
                      have f_y := (hne30 y (by omega)).trans f_y
                      have f_Co := (hne30 (y + 1) (by omega)).trans f_Co
                      have f_Va := (hne30 (y + 2) (by omega)).trans f_Va
                      have f_Ra := (hne30 (y + 3) (by omega)).trans f_Ra
                      have f_Ex := (hne30 (y + 13) (by omega)).trans f_Ex
                      have f_Xs := (hne30 (y + 17) (by omega)).trans f_Xs
                      have f_by := (hne30 (y + 19) (by omega)).trans f_by
                      have f_fw := (hne30 (y + 20) (by omega)).trans f_fw
                      have f_tk := (hne30 (y + 21) (by omega)).trans f_tk
                      have f_bd := (hne30 (y + 22) (by omega)).trans f_bd
                      have f_wa := (hne30 (y + 25) (by omega)).trans f_wa
                      have hfr : ∀ j, j ≠ (y + 19) → j ≠ (y + 20) → j ≠ (y + 21) → j ≠ (y + 22) → j ≠ (y + 24) → j ≠ (y + 25) → w29 j = w j := fun j a0 a1 a2 a3 a4 a5 => (hne30 j (by omega)).trans (hfr j a0 a1 a2 a3 a4 a5)
                      refine n_iconst hx hb dX7_findWanted_164 ?_
                      refine lv_istore (lv' := [(6, .int (iI 0)), (5, .int (iI (((chI (Ra 0) (Ra 1) (fun s1 q => Va (8 * s1 + q)) (fun q => Xs (80 * t + 4 * q)) (fun q => Xs (80 * t + 4 * q + 1)) (fun q => Xs (80 * t + 4 * q + 2)) (fun q => Xs (80 * t + 4 * q + 3)) e1).toNat : Nat) : Int))), (4, .int (iI (spI (Ra 0) (Ra 1) (fun s1 q => Va (8 * s1 + q)) (fun q => Xs (80 * t + 4 * q)) (fun q => Xs (80 * t + 4 * q + 1)) (fun q => Xs (80 * t + 4 * q + 2)) (fun q => Xs (80 * t + 4 * q + 3)) e1))), (3, .int (iI ((80 * t + 4 * e1 : Nat) : Int))), (0, .ref (ad y)), (1, .int (iI ((t : Nat) : Int))), (2, .int (iI ((e1 : Nat) : Int)))]) hx hb dX7_findWanted_165 hl (by decide) rfl (fun ls hl => ?_)
                      have lp31 : ∀ (fu : Nat), ∀ (k : Nat) (po2 : Nat → Int) (wa2 : Nat → Int), ∀ (w32 : Nat → va_E) (H : Heap) (locs : List Loc), ∀ (ls : Array Slot), Co 1 - k < fu → k ≤ Co 1 → (∀ j, j < Co 1 → (j < k → wa2 j = (mlM (fun q9 => tkq (chI (Ra 0) (Ra 1) (fun s1 q => Va (8 * s1 + q)) (fun q => Xs (80 * t + 4 * q)) (fun q => Xs (80 * t + 4 * q + 1)) (fun q => Xs (80 * t + 4 * q + 2)) (fun q => Xs (80 * t + 4 * q + 3)) q9).toNat j) (fun q9 => mlA (fun q => Xs (80 * t + 4 * q + 1)) (fun q => Xs (80 * t + 4 * q + 2)) (fun q => Xs (80 * t + 4 * q + 3)) j q9) (e1 + 1)) ∧ po2 j = (mlB (fun q9 => tkq (chI (Ra 0) (Ra 1) (fun s1 q => Va (8 * s1 + q)) (fun q => Xs (80 * t + 4 * q)) (fun q => Xs (80 * t + 4 * q + 1)) (fun q => Xs (80 * t + 4 * q + 2)) (fun q => Xs (80 * t + 4 * q + 3)) q9).toNat j) (fun q9 => mlA (fun q => Xs (80 * t + 4 * q + 1)) (fun q => Xs (80 * t + 4 * q + 2)) (fun q => Xs (80 * t + 4 * q + 3)) j q9) (e1 + 1)) + (mlM (fun q9 => tkq (chI (Ra 0) (Ra 1) (fun s1 q => Va (8 * s1 + q)) (fun q => Xs (80 * t + 4 * q)) (fun q => Xs (80 * t + 4 * q + 1)) (fun q => Xs (80 * t + 4 * q + 2)) (fun q => Xs (80 * t + 4 * q + 3)) q9).toNat j) (fun q9 => mlA (fun q => Xs (80 * t + 4 * q + 1)) (fun q => Xs (80 * t + 4 * q + 2)) (fun q => Xs (80 * t + 4 * q + 3)) j q9) (e1 + 1))) ∧ (k ≤ j → wa2 j = (mlM (fun q9 => tkq (chI (Ra 0) (Ra 1) (fun s1 q => Va (8 * s1 + q)) (fun q => Xs (80 * t + 4 * q)) (fun q => Xs (80 * t + 4 * q + 1)) (fun q => Xs (80 * t + 4 * q + 2)) (fun q => Xs (80 * t + 4 * q + 3)) q9).toNat j) (fun q9 => mlA (fun q => Xs (80 * t + 4 * q + 1)) (fun q => Xs (80 * t + 4 * q + 2)) (fun q => Xs (80 * t + 4 * q + 3)) j q9) e1) ∧ po2 j = (mlB (fun q9 => tkq (chI (Ra 0) (Ra 1) (fun s1 q => Va (8 * s1 + q)) (fun q => Xs (80 * t + 4 * q)) (fun q => Xs (80 * t + 4 * q + 1)) (fun q => Xs (80 * t + 4 * q + 2)) (fun q => Xs (80 * t + 4 * q + 3)) q9).toNat j) (fun q9 => mlA (fun q => Xs (80 * t + 4 * q + 1)) (fun q => Xs (80 * t + 4 * q + 2)) (fun q => Xs (80 * t + 4 * q + 3)) j q9) e1) + (mlM (fun q9 => tkq (chI (Ra 0) (Ra 1) (fun s1 q => Va (8 * s1 + q)) (fun q => Xs (80 * t + 4 * q)) (fun q => Xs (80 * t + 4 * q + 1)) (fun q => Xs (80 * t + 4 * q + 2)) (fun q => Xs (80 * t + 4 * q + 3)) q9).toNat j) (fun q9 => mlA (fun q => Xs (80 * t + 4 * q + 1)) (fun q => Xs (80 * t + 4 * q + 2)) (fun q => Xs (80 * t + 4 * q + 3)) j q9) e1) + mlA (fun q => Xs (80 * t + 4 * q + 1)) (fun q => Xs (80 * t + 4 * q + 2)) (fun q => Xs (80 * t + 4 * q + 3)) j e1)) → (∀ j, j ≠ (y + 19) → j ≠ (y + 20) → j ≠ (y + 21) → j ≠ (y + 22) → j ≠ (y + 24) → j ≠ (y + 25) → w32 j = w j) → w32 y = .inr (7, [.int (iI 0), .ref (ad (y + 1)), .ref (ad (y + 2)), .ref (ad (y + 3)), .ref (ad (y + 4)), .ref (ad (y + 5)), .ref (ad (y + 6)), .ref (ad (y + 7)), .ref (ad (y + 8)), .ref (ad (y + 9)), .ref (ad (y + 10)), .ref (ad (y + 11)), .ref (ad (y + 12)), .ref (ad (y + 13)), .ref (ad (y + 14)), .ref (ad (y + 15)), .ref (ad (y + 16)), .ref (ad (y + 17)), .ref (ad (y + 18)), .ref (ad (y + 19)), .ref (ad (y + 20)), .ref (ad (y + 21)), .ref (ad (y + 22)), .ref (ad (y + 23)), .ref (ad (y + 24)), .ref (ad (y + 25)), .ref (ad (y + 26))]) → w32 (y + 1) = aI G 8 (fun q => (Co q : Int)) → w32 (y + 2) = aI G 64 (fun q => (Va q : Int)) → w32 (y + 3) = aI G 8 (fun q => (Ra q : Int)) → w32 (y + 13) = aI G 16 (fun q => (Ex q : Int)) → w32 (y + 17) = aI G 1280 (fun q => (Xs q : Int)) → w32 (y + 19) = aI G 8 (fun q => (B q : Int)) → w32 (y + 20) = aI G 18009 Fw → w32 (y + 21) = aI G 8 (fun q => (tk1 q : Int)) → w32 (y + 22) = aI G 8 (fun q => (bd1 q : Int)) → w32 (y + 24) = aI G 8 po2 → w32 (y + 25) = aI G 8 wa2 → va_P G.1 vwCl (nL N ad w32) H → va_S (nA N ad s.heap.size) s.heap H locs → lv_has ls 8 [(0, .ref (ad y)), (1, .int (iI ((t : Nat) : Int))), (2, .int (iI ((e1 : Nat) : Int))), (3, .int (iI ((80 * t + 4 * e1 : Nat) : Int))), (4, .int (iI (spI (Ra 0) (Ra 1) (fun s1 q => Va (8 * s1 + q)) (fun q => Xs (80 * t + 4 * q)) (fun q => Xs (80 * t + 4 * q + 1)) (fun q => Xs (80 * t + 4 * q + 2)) (fun q => Xs (80 * t + 4 * q + 3)) e1))), (5, .int (iI (((chI (Ra 0) (Ra 1) (fun s1 q => Va (8 * s1 + q)) (fun q => Xs (80 * t + 4 * q)) (fun q => Xs (80 * t + 4 * q + 1)) (fun q => Xs (80 * t + 4 * q + 2)) (fun q => Xs (80 * t + 4 * q + 3)) e1).toNat : Nat) : Int))), (6, .int (iI ((k : Nat) : Int)))] → W p l e ({ frames := 2, cells := 0, slots := 0, locals := 53 } : Room) s m ([.ref (ad y), .int (iI ((t : Nat) : Int))] : List Value).toArray below meth cd H locs 0 0 Q (F0 m 167 ls []) := by
                        intro fu
                        induction fu with
                        | zero =>
                          intro k po2 wa2 w32 H locs ls hfu hk hkk hfr f_y f_Co f_Va f_Ra f_Ex f_Xs f_by f_fw f_tk f_bd f_po f_wa hP hS hl
                          exact absurd hfu (Nat.not_lt_zero _)
                        | succ fu ih33 =>
                          intro k po2 wa2 w32 H locs ls hfu hk hkk hfr f_y f_Co f_Va f_Ra f_Ex f_Xs f_by f_fw f_tk f_bd f_po f_wa hP hS hl
                          refine lv_iload hx hb dX7_findWanted_167 (lv_at hl 6 rfl) ?_
                          refine lv_aload_n hx hb dX7_findWanted_169 rfl (lv_at hl 0 rfl) ?_
                          refine n_get hx hb hts u_X7 hown hK hP (by omega) f_y rfl 1 (by decide) (nT_m wf_X7_7) rfl dX7_findWanted_170 ?_
                          refine n_iconst hx hb dX7_findWanted_173 ?_
                          refine n_iald hx hb hK hP 1 (by omega) f_Co (by omega) (by omega) (by decide) dX7_findWanted_174 ?_
                          have ho34 := hCo 1 (by omega)
                          refine n_icmp_ge (tgt := 254) hx hb dX7_findWanted_175 (by decide) (by omega) (by omega) (fun hc175 => ?_) (fun hc175 => ?_)
                          · skip
                            refine lv_iinc (v := iI (((e1 : Nat) : Int) + 1)) (lv' := [(2, .int (iI (((e1 : Nat) : Int) + 1))), (0, .ref (ad y)), (1, .int (iI ((t : Nat) : Int))), (3, .int (iI ((80 * t + 4 * e1 : Nat) : Int))), (4, .int (iI (spI (Ra 0) (Ra 1) (fun s1 q => Va (8 * s1 + q)) (fun q => Xs (80 * t + 4 * q)) (fun q => Xs (80 * t + 4 * q + 1)) (fun q => Xs (80 * t + 4 * q + 2)) (fun q => Xs (80 * t + 4 * q + 3)) e1))), (5, .int (iI (((chI (Ra 0) (Ra 1) (fun s1 q => Va (8 * s1 + q)) (fun q => Xs (80 * t + 4 * q)) (fun q => Xs (80 * t + 4 * q + 1)) (fun q => Xs (80 * t + 4 * q + 2)) (fun q => Xs (80 * t + 4 * q + 3)) e1).toNat : Nat) : Int))), (6, .int (iI ((k : Nat) : Int)))]) hx hb dX7_findWanted_254 hl (k := 2) rfl (by first | exact iI_add _ _ | exact (iI_add _ _).trans (congrArg iI (by omega))) (by decide) rfl (fun ls hl => ?_)
                            refine lv_goto (tgt := 30) hx hb dX7_findWanted_257 (by decide) ?_
                            exact ih6 (e1 + 1) B bd1 tk1 Fw po2 wa2 _ _ _ _ (by omega) (by omega) (allB_t hall (decide_eq_true ⟨by omega, hls⟩)) (fun q h9 => (Decidable.em (q = e1)).elim (fun e9 => by rw [e9]; omega) (fun e9 => hch q (by omega))) (fun j hj9 => (hkk j hj9).1 (by omega)) hfr f_y f_Co f_Va f_Ra f_Ex f_Xs f_by f_fw f_tk f_bd f_po f_wa hP hS (by first | exact lv_sub hl [1, 2, 0] rfl | exact lv_cast (lv_sub (l' := [(0, .ref (ad y)), (1, .int (iI ((t : Nat) : Int))), (2, .int (iI (((e1 : Nat) : Int) + 1)))]) hl [1, 2, 0] rfl) (lc_s (lc_s (lc_i (show ((((e1 : Nat) : Int) + 1) : Int) = (((e1 + 1) : Nat) : Int) by omega) rfl))))
                          · skip
                            have hk0 := (hkk k (by omega)).2 (Nat.le_refl _)
                            have hm9 := hmr k
                            have ht9 := htkk k (by omega)
                            have ht8 := htr (chI (Ra 0) (Ra 1) (fun s1 q => Va (8 * s1 + q)) (fun q => Xs (80 * t + 4 * q)) (fun q => Xs (80 * t + 4 * q + 1)) (fun q => Xs (80 * t + 4 * q + 2)) (fun q => Xs (80 * t + 4 * q + 3)) e1).toNat k (by omega)
                            have ha9 : 0 ≤ mlA (fun q => Xs (80 * t + 4 * q + 1)) (fun q => Xs (80 * t + 4 * q + 2)) (fun q => Xs (80 * t + 4 * q + 3)) k e1 ∧ mlA (fun q => Xs (80 * t + 4 * q + 1)) (fun q => Xs (80 * t + 4 * q + 2)) (fun q => Xs (80 * t + 4 * q + 3)) k e1 ≤ 50 := by unfold mlA; split; exact ⟨by omega, by show ((Xs (80 * t + 4 * e1 + 3) : Nat) : Int) ≤ 50; omega⟩; exact ⟨by omega, by omega⟩
                            refine lv_aload_n hx hb dX7_findWanted_178 rfl (lv_at hl 0 rfl) ?_
                            refine n_get hx hb hts u_X7 hown hK hP (by omega) f_y rfl 21 (by decide) (nT_m wf_X7_71) rfl dX7_findWanted_179 ?_
                            refine lv_iload hx hb dX7_findWanted_182 (lv_at hl 6 rfl) ?_
                            refine n_iald hx hb hK hP k (by omega) f_tk (by omega) (by omega) (by decide) dX7_findWanted_184 ?_
                            refine lv_aload_n hx hb dX7_findWanted_185 rfl (lv_at hl 0 rfl) ?_
                            refine n_get hx hb hts u_X7 hown hK hP (by omega) f_y rfl 24 (by decide) (nT_m wf_X7_80) rfl dX7_findWanted_186 ?_
                            refine lv_iload hx hb dX7_findWanted_189 (lv_at hl 6 rfl) ?_
                            refine n_iald hx hb hK hP k (by omega) f_po (by omega) (by omega) (by decide) dX7_findWanted_191 ?_
                            refine n_icmp_le (tgt := 213) hx hb dX7_findWanted_192 (by decide) (by omega) (by omega) (fun hc192 => ?_) (fun hc192 => ?_)
                            · skip
                              refine n_iconst hx hb dX7_findWanted_213 ?_
                              refine lv_istore (lv' := [(7, .int (iI 0)), (0, .ref (ad y)), (1, .int (iI ((t : Nat) : Int))), (2, .int (iI ((e1 : Nat) : Int))), (3, .int (iI ((80 * t + 4 * e1 : Nat) : Int))), (4, .int (iI (spI (Ra 0) (Ra 1) (fun s1 q => Va (8 * s1 + q)) (fun q => Xs (80 * t + 4 * q)) (fun q => Xs (80 * t + 4 * q + 1)) (fun q => Xs (80 * t + 4 * q + 2)) (fun q => Xs (80 * t + 4 * q + 3)) e1))), (5, .int (iI (((chI (Ra 0) (Ra 1) (fun s1 q => Va (8 * s1 + q)) (fun q => Xs (80 * t + 4 * q)) (fun q => Xs (80 * t + 4 * q + 1)) (fun q => Xs (80 * t + 4 * q + 2)) (fun q => Xs (80 * t + 4 * q + 3)) e1).toNat : Nat) : Int))), (6, .int (iI ((k : Nat) : Int)))]) hx hb dX7_findWanted_214 hl (by decide) rfl (fun ls hl => ?_)
                              refine lv_aload_n hx hb dX7_findWanted_216 rfl (lv_at hl 1 rfl) ?_
                              refine n_get hx hb hts u_X7 hown hK hP (by omega) f_y rfl 25 (by decide) (nT_m wf_X7_83) rfl dX7_findWanted_217 ?_
                              refine lv_iload hx hb dX7_findWanted_220 (lv_at hl 7 rfl) ?_
                              refine lv_dup2_11 hx hb dX7_findWanted_222 rfl rfl ?_
                              refine n_iald hx hb hK hP k (by omega) f_wa (by omega) (by omega) (by decide) dX7_findWanted_223 ?_
                              refine lv_iload hx hb dX7_findWanted_224 (lv_at hl 0 rfl) ?_
                              refine n_iadd hx hb dX7_findWanted_226 ?_
                              refine n_iast hx hb hK hJ hP hS k (by omega) f_wa (by omega) (by omega) (by decide) dX7_findWanted_227 (fun w35 H locs f_wa hne36 hP hS => ?_)
                              have f_y := (hne36 y (by omega)).trans f_y
                              have f_Co := (hne36 (y + 1) (by omega)).trans f_Co
                              have f_Va := (hne36 (y + 2) (by omega)).trans f_Va
                              have f_Ra := (hne36 (y + 3) (by omega)).trans f_Ra
                              have f_Ex := (hne36 (y + 13) (by omega)).trans f_Ex
                              have f_Xs := (hne36 (y + 17) (by omega)).trans f_Xs
                              have f_by := (hne36 (y + 19) (by omega)).trans f_by
                              have f_fw := (hne36 (y + 20) (by omega)).trans f_fw
                              have f_tk := (hne36 (y + 21) (by omega)).trans f_tk
                              have f_bd := (hne36 (y + 22) (by omega)).trans f_bd
                              have f_po := (hne36 (y + 24) (by omega)).trans f_po
                              have hfr : ∀ j, j ≠ (y + 19) → j ≠ (y + 20) → j ≠ (y + 21) → j ≠ (y + 22) → j ≠ (y + 24) → j ≠ (y + 25) → w35 j = w j := fun j a0 a1 a2 a3 a4 a5 => (hne36 j (by omega)).trans (hfr j a0 a1 a2 a3 a4 a5)
                              refine lv_aload_n hx hb dX7_findWanted_228 rfl (lv_at hl 1 rfl) ?_
                              refine n_get hx hb hts u_X7 hown hK hP (by omega) f_y rfl 24 (by decide) (nT_m wf_X7_80) rfl dX7_findWanted_229 ?_
                              refine lv_iload hx hb dX7_findWanted_232 (lv_at hl 7 rfl) ?_
                              refine lv_dup2_11 hx hb dX7_findWanted_234 rfl rfl ?_
                              refine n_iald hx hb hK hP k (by omega) f_po (by omega) (by omega) (by decide) dX7_findWanted_235 ?_
                              refine lv_iload hx hb dX7_findWanted_236 (lv_at hl 0 rfl) ?_
                              refine lv_aload_n hx hb dX7_findWanted_238 rfl (lv_at hl 1 rfl) ?_
                              refine n_get hx hb hts u_X7 hown hK hP (by omega) f_y rfl 21 (by decide) (nT_m wf_X7_71) rfl dX7_findWanted_239 ?_
                              refine lv_iload hx hb dX7_findWanted_242 (lv_at hl 7 rfl) ?_
                              refine n_iald hx hb hK hP k (by omega) f_tk (by omega) (by omega) (by decide) dX7_findWanted_244 ?_
                              refine n_isub hx hb dX7_findWanted_245 ?_
                              refine n_iadd hx hb dX7_findWanted_246 ?_
                              refine n_iast hx hb hK hJ hP hS k (by omega) f_po (by omega) (by omega) (by decide) dX7_findWanted_247 (fun w37 H locs f_po hne38 hP hS => ?_)
                              have f_y := (hne38 y (by omega)).trans f_y
                              have f_Co := (hne38 (y + 1) (by omega)).trans f_Co
                              have f_Va := (hne38 (y + 2) (by omega)).trans f_Va
                              have f_Ra := (hne38 (y + 3) (by omega)).trans f_Ra
                              have f_Ex := (hne38 (y + 13) (by omega)).trans f_Ex
                              have f_Xs := (hne38 (y + 17) (by omega)).trans f_Xs
                              have f_by := (hne38 (y + 19) (by omega)).trans f_by
                              have f_fw := (hne38 (y + 20) (by omega)).trans f_fw
                              have f_tk := (hne38 (y + 21) (by omega)).trans f_tk
                              have f_bd := (hne38 (y + 22) (by omega)).trans f_bd
                              have f_wa := (hne38 (y + 25) (by omega)).trans f_wa
                              have hfr : ∀ j, j ≠ (y + 19) → j ≠ (y + 20) → j ≠ (y + 21) → j ≠ (y + 22) → j ≠ (y + 24) → j ≠ (y + 25) → w37 j = w j := fun j a0 a1 a2 a3 a4 a5 => (hne38 j (by omega)).trans (hfr j a0 a1 a2 a3 a4 a5)
                              refine lv_iinc (v := iI (((k : Nat) : Int) + 1)) (lv' := [(6, .int (iI (((k : Nat) : Int) + 1))), (7, .int (iI 0)), (0, .ref (ad y)), (1, .int (iI ((t : Nat) : Int))), (2, .int (iI ((e1 : Nat) : Int))), (3, .int (iI ((80 * t + 4 * e1 : Nat) : Int))), (4, .int (iI (spI (Ra 0) (Ra 1) (fun s1 q => Va (8 * s1 + q)) (fun q => Xs (80 * t + 4 * q)) (fun q => Xs (80 * t + 4 * q + 1)) (fun q => Xs (80 * t + 4 * q + 2)) (fun q => Xs (80 * t + 4 * q + 3)) e1))), (5, .int (iI (((chI (Ra 0) (Ra 1) (fun s1 q => Va (8 * s1 + q)) (fun q => Xs (80 * t + 4 * q)) (fun q => Xs (80 * t + 4 * q + 1)) (fun q => Xs (80 * t + 4 * q + 2)) (fun q => Xs (80 * t + 4 * q + 3)) e1).toNat : Nat) : Int)))]) hx hb dX7_findWanted_248 hl (k := 7) rfl (by first | exact iI_add _ _ | exact (iI_add _ _).trans (congrArg iI (by omega))) (by decide) rfl (fun ls hl => ?_)
                              refine lv_goto (tgt := 167) hx hb dX7_findWanted_251 (by decide) ?_
                              have eB : (mlB (fun q9 => tkq (chI (Ra 0) (Ra 1) (fun s1 q => Va (8 * s1 + q)) (fun q => Xs (80 * t + 4 * q)) (fun q => Xs (80 * t + 4 * q + 1)) (fun q => Xs (80 * t + 4 * q + 2)) (fun q => Xs (80 * t + 4 * q + 3)) q9).toNat k) (fun q9 => mlA (fun q => Xs (80 * t + 4 * q + 1)) (fun q => Xs (80 * t + 4 * q + 2)) (fun q => Xs (80 * t + 4 * q + 3)) k q9) (e1 + 1)) = (mlB (fun q9 => tkq (chI (Ra 0) (Ra 1) (fun s1 q => Va (8 * s1 + q)) (fun q => Xs (80 * t + 4 * q)) (fun q => Xs (80 * t + 4 * q + 1)) (fun q => Xs (80 * t + 4 * q + 2)) (fun q => Xs (80 * t + 4 * q + 3)) q9).toNat k) (fun q9 => mlA (fun q => Xs (80 * t + 4 * q + 1)) (fun q => Xs (80 * t + 4 * q + 2)) (fun q => Xs (80 * t + 4 * q + 3)) k q9) e1) + mlA (fun q => Xs (80 * t + 4 * q + 1)) (fun q => Xs (80 * t + 4 * q + 2)) (fun q => Xs (80 * t + 4 * q + 3)) k e1 - tkq (chI (Ra 0) (Ra 1) (fun s1 q => Va (8 * s1 + q)) (fun q => Xs (80 * t + 4 * q)) (fun q => Xs (80 * t + 4 * q + 1)) (fun q => Xs (80 * t + 4 * q + 2)) (fun q => Xs (80 * t + 4 * q + 3)) e1).toNat k := rfl
                              have eM : (mlM (fun q9 => tkq (chI (Ra 0) (Ra 1) (fun s1 q => Va (8 * s1 + q)) (fun q => Xs (80 * t + 4 * q)) (fun q => Xs (80 * t + 4 * q + 1)) (fun q => Xs (80 * t + 4 * q + 2)) (fun q => Xs (80 * t + 4 * q + 3)) q9).toNat k) (fun q9 => mlA (fun q => Xs (80 * t + 4 * q + 1)) (fun q => Xs (80 * t + 4 * q + 2)) (fun q => Xs (80 * t + 4 * q + 3)) k q9) (e1 + 1)) = max (mlM (fun q9 => tkq (chI (Ra 0) (Ra 1) (fun s1 q => Va (8 * s1 + q)) (fun q => Xs (80 * t + 4 * q)) (fun q => Xs (80 * t + 4 * q + 1)) (fun q => Xs (80 * t + 4 * q + 2)) (fun q => Xs (80 * t + 4 * q + 3)) q9).toNat k) (fun q9 => mlA (fun q => Xs (80 * t + 4 * q + 1)) (fun q => Xs (80 * t + 4 * q + 2)) (fun q => Xs (80 * t + 4 * q + 3)) k q9) e1) (-(mlB (fun q9 => tkq (chI (Ra 0) (Ra 1) (fun s1 q => Va (8 * s1 + q)) (fun q => Xs (80 * t + 4 * q)) (fun q => Xs (80 * t + 4 * q + 1)) (fun q => Xs (80 * t + 4 * q + 2)) (fun q => Xs (80 * t + 4 * q + 3)) q9).toNat k) (fun q9 => mlA (fun q => Xs (80 * t + 4 * q + 1)) (fun q => Xs (80 * t + 4 * q + 2)) (fun q => Xs (80 * t + 4 * q + 3)) k q9) (e1 + 1))) := rfl
                              exact ih33 (k + 1) (va_up po2 k (po2 k + (0 - ((tk1 k : Nat) : Int)))) (va_up wa2 k (wa2 k + 0)) _ _ _ _ (by omega) (by omega) (fun j hj9 => (Decidable.em (j = k)).elim (fun e9 => by subst e9; rw [va_up_self, va_up_self]; refine ⟨fun _ => ?_, fun h9 => absurd h9 (by omega)⟩; rw [eM, eB]; omega) (fun e9 => by rw [va_up_ne _ _ e9, va_up_ne _ _ e9]; exact ⟨fun h9 => (hkk j hj9).1 (by omega), fun h9 => (hkk j hj9).2 (by omega)⟩)) hfr f_y f_Co f_Va f_Ra f_Ex f_Xs f_by f_fw f_tk f_bd f_po f_wa hP hS (by first | exact lv_sub hl [2, 3, 4, 5, 6, 7, 0] rfl | exact lv_cast (lv_sub (l' := [(0, .ref (ad y)), (1, .int (iI ((t : Nat) : Int))), (2, .int (iI ((e1 : Nat) : Int))), (3, .int (iI ((80 * t + 4 * e1 : Nat) : Int))), (4, .int (iI (spI (Ra 0) (Ra 1) (fun s1 q => Va (8 * s1 + q)) (fun q => Xs (80 * t + 4 * q)) (fun q => Xs (80 * t + 4 * q + 1)) (fun q => Xs (80 * t + 4 * q + 2)) (fun q => Xs (80 * t + 4 * q + 3)) e1))), (5, .int (iI (((chI (Ra 0) (Ra 1) (fun s1 q => Va (8 * s1 + q)) (fun q => Xs (80 * t + 4 * q)) (fun q => Xs (80 * t + 4 * q + 1)) (fun q => Xs (80 * t + 4 * q + 2)) (fun q => Xs (80 * t + 4 * q + 3)) e1).toNat : Nat) : Int))), (6, .int (iI (((k : Nat) : Int) + 1)))]) hl [2, 3, 4, 5, 6, 7, 0] rfl) (lc_s (lc_s (lc_s (lc_s (lc_s (lc_s (lc_i (show ((((k : Nat) : Int) + 1) : Int) = (((k + 1) : Nat) : Int) by omega) rfl))))))))
                            · skip
                              refine lv_aload_n hx hb dX7_findWanted_195 rfl (lv_at hl 0 rfl) ?_
                              refine n_get hx hb hts u_X7 hown hK hP (by omega) f_y rfl 21 (by decide) (nT_m wf_X7_71) rfl dX7_findWanted_196 ?_
                              refine lv_iload hx hb dX7_findWanted_199 (lv_at hl 6 rfl) ?_
                              refine n_iald hx hb hK hP k (by omega) f_tk (by omega) (by omega) (by decide) dX7_findWanted_201 ?_
                              refine lv_aload_n hx hb dX7_findWanted_202 rfl (lv_at hl 0 rfl) ?_
                              refine n_get hx hb hts u_X7 hown hK hP (by omega) f_y rfl 24 (by decide) (nT_m wf_X7_80) rfl dX7_findWanted_203 ?_
                              refine lv_iload hx hb dX7_findWanted_206 (lv_at hl 6 rfl) ?_
                              refine n_iald hx hb hK hP k (by omega) f_po (by omega) (by omega) (by decide) dX7_findWanted_208 ?_
                              refine n_isub hx hb dX7_findWanted_209 ?_
                              refine lv_goto (tgt := 214) hx hb dX7_findWanted_210 (by decide) ?_
                              refine lv_istore (lv' := [(7, .int (iI ((tk1 k : Int) - po2 k))), (0, .ref (ad y)), (1, .int (iI ((t : Nat) : Int))), (2, .int (iI ((e1 : Nat) : Int))), (3, .int (iI ((80 * t + 4 * e1 : Nat) : Int))), (4, .int (iI (spI (Ra 0) (Ra 1) (fun s1 q => Va (8 * s1 + q)) (fun q => Xs (80 * t + 4 * q)) (fun q => Xs (80 * t + 4 * q + 1)) (fun q => Xs (80 * t + 4 * q + 2)) (fun q => Xs (80 * t + 4 * q + 3)) e1))), (5, .int (iI (((chI (Ra 0) (Ra 1) (fun s1 q => Va (8 * s1 + q)) (fun q => Xs (80 * t + 4 * q)) (fun q => Xs (80 * t + 4 * q + 1)) (fun q => Xs (80 * t + 4 * q + 2)) (fun q => Xs (80 * t + 4 * q + 3)) e1).toNat : Nat) : Int))), (6, .int (iI ((k : Nat) : Int)))]) hx hb dX7_findWanted_214 hl (by decide) rfl (fun ls hl => ?_)
                              refine lv_aload_n hx hb dX7_findWanted_216 rfl (lv_at hl 1 rfl) ?_
                              refine n_get hx hb hts u_X7 hown hK hP (by omega) f_y rfl 25 (by decide) (nT_m wf_X7_83) rfl dX7_findWanted_217 ?_
                              refine lv_iload hx hb dX7_findWanted_220 (lv_at hl 7 rfl) ?_
                              refine lv_dup2_11 hx hb dX7_findWanted_222 rfl rfl ?_
                              refine n_iald hx hb hK hP k (by omega) f_wa (by omega) (by omega) (by decide) dX7_findWanted_223 ?_
                              refine lv_iload hx hb dX7_findWanted_224 (lv_at hl 0 rfl) ?_
                              refine n_iadd hx hb dX7_findWanted_226 ?_
                              refine n_iast hx hb hK hJ hP hS k (by omega) f_wa (by omega) (by omega) (by decide) dX7_findWanted_227 (fun w39 H locs f_wa hne40 hP hS => ?_)
                              have f_y := (hne40 y (by omega)).trans f_y
                              have f_Co := (hne40 (y + 1) (by omega)).trans f_Co
                              have f_Va := (hne40 (y + 2) (by omega)).trans f_Va
                              have f_Ra := (hne40 (y + 3) (by omega)).trans f_Ra
                              have f_Ex := (hne40 (y + 13) (by omega)).trans f_Ex
                              have f_Xs := (hne40 (y + 17) (by omega)).trans f_Xs
                              have f_by := (hne40 (y + 19) (by omega)).trans f_by
                              have f_fw := (hne40 (y + 20) (by omega)).trans f_fw
                              have f_tk := (hne40 (y + 21) (by omega)).trans f_tk
                              have f_bd := (hne40 (y + 22) (by omega)).trans f_bd
                              have f_po := (hne40 (y + 24) (by omega)).trans f_po
                              have hfr : ∀ j, j ≠ (y + 19) → j ≠ (y + 20) → j ≠ (y + 21) → j ≠ (y + 22) → j ≠ (y + 24) → j ≠ (y + 25) → w39 j = w j := fun j a0 a1 a2 a3 a4 a5 => (hne40 j (by omega)).trans (hfr j a0 a1 a2 a3 a4 a5)
                              refine lv_aload_n hx hb dX7_findWanted_228 rfl (lv_at hl 1 rfl) ?_
                              refine n_get hx hb hts u_X7 hown hK hP (by omega) f_y rfl 24 (by decide) (nT_m wf_X7_80) rfl dX7_findWanted_229 ?_
                              refine lv_iload hx hb dX7_findWanted_232 (lv_at hl 7 rfl) ?_
                              refine lv_dup2_11 hx hb dX7_findWanted_234 rfl rfl ?_
                              refine n_iald hx hb hK hP k (by omega) f_po (by omega) (by omega) (by decide) dX7_findWanted_235 ?_
                              refine lv_iload hx hb dX7_findWanted_236 (lv_at hl 0 rfl) ?_
                              refine lv_aload_n hx hb dX7_findWanted_238 rfl (lv_at hl 1 rfl) ?_
                              refine n_get hx hb hts u_X7 hown hK hP (by omega) f_y rfl 21 (by decide) (nT_m wf_X7_71) rfl dX7_findWanted_239 ?_
                              refine lv_iload hx hb dX7_findWanted_242 (lv_at hl 7 rfl) ?_
                              refine n_iald hx hb hK hP k (by omega) f_tk (by omega) (by omega) (by decide) dX7_findWanted_244 ?_
                              refine n_isub hx hb dX7_findWanted_245 ?_
                              refine n_iadd hx hb dX7_findWanted_246 ?_
                              refine n_iast hx hb hK hJ hP hS k (by omega) f_po (by omega) (by omega) (by decide) dX7_findWanted_247 (fun w41 H locs f_po hne42 hP hS => ?_)
                              have f_y := (hne42 y (by omega)).trans f_y
                              have f_Co := (hne42 (y + 1) (by omega)).trans f_Co
                              have f_Va := (hne42 (y + 2) (by omega)).trans f_Va
                              have f_Ra := (hne42 (y + 3) (by omega)).trans f_Ra
                              have f_Ex := (hne42 (y + 13) (by omega)).trans f_Ex
                              have f_Xs := (hne42 (y + 17) (by omega)).trans f_Xs
                              have f_by := (hne42 (y + 19) (by omega)).trans f_by
                              have f_fw := (hne42 (y + 20) (by omega)).trans f_fw
                              have f_tk := (hne42 (y + 21) (by omega)).trans f_tk
                              have f_bd := (hne42 (y + 22) (by omega)).trans f_bd
                              have f_wa := (hne42 (y + 25) (by omega)).trans f_wa
                              have hfr : ∀ j, j ≠ (y + 19) → j ≠ (y + 20) → j ≠ (y + 21) → j ≠ (y + 22) → j ≠ (y + 24) → j ≠ (y + 25) → w41 j = w j := fun j a0 a1 a2 a3 a4 a5 => (hne42 j (by omega)).trans (hfr j a0 a1 a2 a3 a4 a5)
                              refine lv_iinc (v := iI (((k : Nat) : Int) + 1)) (lv' := [(6, .int (iI (((k : Nat) : Int) + 1))), (7, .int (iI ((tk1 k : Int) - po2 k))), (0, .ref (ad y)), (1, .int (iI ((t : Nat) : Int))), (2, .int (iI ((e1 : Nat) : Int))), (3, .int (iI ((80 * t + 4 * e1 : Nat) : Int))), (4, .int (iI (spI (Ra 0) (Ra 1) (fun s1 q => Va (8 * s1 + q)) (fun q => Xs (80 * t + 4 * q)) (fun q => Xs (80 * t + 4 * q + 1)) (fun q => Xs (80 * t + 4 * q + 2)) (fun q => Xs (80 * t + 4 * q + 3)) e1))), (5, .int (iI (((chI (Ra 0) (Ra 1) (fun s1 q => Va (8 * s1 + q)) (fun q => Xs (80 * t + 4 * q)) (fun q => Xs (80 * t + 4 * q + 1)) (fun q => Xs (80 * t + 4 * q + 2)) (fun q => Xs (80 * t + 4 * q + 3)) e1).toNat : Nat) : Int)))]) hx hb dX7_findWanted_248 hl (k := 7) rfl (by first | exact iI_add _ _ | exact (iI_add _ _).trans (congrArg iI (by omega))) (by decide) rfl (fun ls hl => ?_)
                              refine lv_goto (tgt := 167) hx hb dX7_findWanted_251 (by decide) ?_
                              have eB : (mlB (fun q9 => tkq (chI (Ra 0) (Ra 1) (fun s1 q => Va (8 * s1 + q)) (fun q => Xs (80 * t + 4 * q)) (fun q => Xs (80 * t + 4 * q + 1)) (fun q => Xs (80 * t + 4 * q + 2)) (fun q => Xs (80 * t + 4 * q + 3)) q9).toNat k) (fun q9 => mlA (fun q => Xs (80 * t + 4 * q + 1)) (fun q => Xs (80 * t + 4 * q + 2)) (fun q => Xs (80 * t + 4 * q + 3)) k q9) (e1 + 1)) = (mlB (fun q9 => tkq (chI (Ra 0) (Ra 1) (fun s1 q => Va (8 * s1 + q)) (fun q => Xs (80 * t + 4 * q)) (fun q => Xs (80 * t + 4 * q + 1)) (fun q => Xs (80 * t + 4 * q + 2)) (fun q => Xs (80 * t + 4 * q + 3)) q9).toNat k) (fun q9 => mlA (fun q => Xs (80 * t + 4 * q + 1)) (fun q => Xs (80 * t + 4 * q + 2)) (fun q => Xs (80 * t + 4 * q + 3)) k q9) e1) + mlA (fun q => Xs (80 * t + 4 * q + 1)) (fun q => Xs (80 * t + 4 * q + 2)) (fun q => Xs (80 * t + 4 * q + 3)) k e1 - tkq (chI (Ra 0) (Ra 1) (fun s1 q => Va (8 * s1 + q)) (fun q => Xs (80 * t + 4 * q)) (fun q => Xs (80 * t + 4 * q + 1)) (fun q => Xs (80 * t + 4 * q + 2)) (fun q => Xs (80 * t + 4 * q + 3)) e1).toNat k := rfl
                              have eM : (mlM (fun q9 => tkq (chI (Ra 0) (Ra 1) (fun s1 q => Va (8 * s1 + q)) (fun q => Xs (80 * t + 4 * q)) (fun q => Xs (80 * t + 4 * q + 1)) (fun q => Xs (80 * t + 4 * q + 2)) (fun q => Xs (80 * t + 4 * q + 3)) q9).toNat k) (fun q9 => mlA (fun q => Xs (80 * t + 4 * q + 1)) (fun q => Xs (80 * t + 4 * q + 2)) (fun q => Xs (80 * t + 4 * q + 3)) k q9) (e1 + 1)) = max (mlM (fun q9 => tkq (chI (Ra 0) (Ra 1) (fun s1 q => Va (8 * s1 + q)) (fun q => Xs (80 * t + 4 * q)) (fun q => Xs (80 * t + 4 * q + 1)) (fun q => Xs (80 * t + 4 * q + 2)) (fun q => Xs (80 * t + 4 * q + 3)) q9).toNat k) (fun q9 => mlA (fun q => Xs (80 * t + 4 * q + 1)) (fun q => Xs (80 * t + 4 * q + 2)) (fun q => Xs (80 * t + 4 * q + 3)) k q9) e1) (-(mlB (fun q9 => tkq (chI (Ra 0) (Ra 1) (fun s1 q => Va (8 * s1 + q)) (fun q => Xs (80 * t + 4 * q)) (fun q => Xs (80 * t + 4 * q + 1)) (fun q => Xs (80 * t + 4 * q + 2)) (fun q => Xs (80 * t + 4 * q + 3)) q9).toNat k) (fun q9 => mlA (fun q => Xs (80 * t + 4 * q + 1)) (fun q => Xs (80 * t + 4 * q + 2)) (fun q => Xs (80 * t + 4 * q + 3)) k q9) (e1 + 1))) := rfl
                              exact ih33 (k + 1) (va_up po2 k (po2 k + ((((tk1 k : Nat) : Int) - po2 k) - ((tk1 k : Nat) : Int)))) (va_up wa2 k (wa2 k + (((tk1 k : Nat) : Int) - po2 k))) _ _ _ _ (by omega) (by omega) (fun j hj9 => (Decidable.em (j = k)).elim (fun e9 => by subst e9; rw [va_up_self, va_up_self]; refine ⟨fun _ => ?_, fun h9 => absurd h9 (by omega)⟩; rw [eM, eB]; omega) (fun e9 => by rw [va_up_ne _ _ e9, va_up_ne _ _ e9]; exact ⟨fun h9 => (hkk j hj9).1 (by omega), fun h9 => (hkk j hj9).2 (by omega)⟩)) hfr f_y f_Co f_Va f_Ra f_Ex f_Xs f_by f_fw f_tk f_bd f_po f_wa hP hS (by first | exact lv_sub hl [2, 3, 4, 5, 6, 7, 0] rfl | exact lv_cast (lv_sub (l' := [(0, .ref (ad y)), (1, .int (iI ((t : Nat) : Int))), (2, .int (iI ((e1 : Nat) : Int))), (3, .int (iI ((80 * t + 4 * e1 : Nat) : Int))), (4, .int (iI (spI (Ra 0) (Ra 1) (fun s1 q => Va (8 * s1 + q)) (fun q => Xs (80 * t + 4 * q)) (fun q => Xs (80 * t + 4 * q + 1)) (fun q => Xs (80 * t + 4 * q + 2)) (fun q => Xs (80 * t + 4 * q + 3)) e1))), (5, .int (iI (((chI (Ra 0) (Ra 1) (fun s1 q => Va (8 * s1 + q)) (fun q => Xs (80 * t + 4 * q)) (fun q => Xs (80 * t + 4 * q + 1)) (fun q => Xs (80 * t + 4 * q + 2)) (fun q => Xs (80 * t + 4 * q + 3)) e1).toNat : Nat) : Int))), (6, .int (iI (((k : Nat) : Int) + 1)))]) hl [2, 3, 4, 5, 6, 7, 0] rfl) (lc_s (lc_s (lc_s (lc_s (lc_s (lc_s (lc_i (show ((((k : Nat) : Int) + 1) : Int) = (((k + 1) : Nat) : Int) by omega) rfl))))))))
                      exact lp31 (Co 1 - 0 + 1) 0 (va_up po (Xs (80 * t + 4 * e1 + 2)) (po (Xs (80 * t + 4 * e1 + 2)) + ((Xs (80 * t + 4 * e1 + 3) : Nat) : Int))) wa _ _ _ _ (Nat.lt_succ_self _) (by omega) (fun j hj9 => ⟨fun h9 => absurd h9 (Nat.not_lt_zero _), fun _ => ⟨(hw j hj9).1, by have h8 := (hw j hj9).2; by_cases e9 : j = Xs (80 * t + 4 * e1 + 2); rw [e9, va_up_self, show mlA (fun q => Xs (80 * t + 4 * q + 1)) (fun q => Xs (80 * t + 4 * q + 2)) (fun q => Xs (80 * t + 4 * q + 3)) (Xs (80 * t + 4 * e1 + 2)) e1 = ((Xs (80 * t + 4 * e1 + 3) : Nat) : Int) from if_pos ⟨by show Xs (80 * t + 4 * e1 + 1) = 1; omega, rfl⟩, ← e9]; omega; rw [va_up_ne _ _ e9, show mlA (fun q => Xs (80 * t + 4 * q + 1)) (fun q => Xs (80 * t + 4 * q + 2)) (fun q => Xs (80 * t + 4 * q + 3)) j e1 = 0 from if_neg (fun h7 => e9 h7.2.symm)]; omega⟩⟩) hfr f_y f_Co f_Va f_Ra f_Ex f_Xs f_by f_fw f_tk f_bd f_po f_wa hP hS (by first | exact lv_sub hl [4, 5, 6, 3, 2, 1, 0] rfl | exact lv_cast (lv_sub (l' := [(0, .ref (ad y)), (1, .int (iI ((t : Nat) : Int))), (2, .int (iI ((e1 : Nat) : Int))), (3, .int (iI ((80 * t + 4 * e1 : Nat) : Int))), (4, .int (iI (spI (Ra 0) (Ra 1) (fun s1 q => Va (8 * s1 + q)) (fun q => Xs (80 * t + 4 * q)) (fun q => Xs (80 * t + 4 * q + 1)) (fun q => Xs (80 * t + 4 * q + 2)) (fun q => Xs (80 * t + 4 * q + 3)) e1))), (5, .int (iI (((chI (Ra 0) (Ra 1) (fun s1 q => Va (8 * s1 + q)) (fun q => Xs (80 * t + 4 * q)) (fun q => Xs (80 * t + 4 * q + 1)) (fun q => Xs (80 * t + 4 * q + 2)) (fun q => Xs (80 * t + 4 * q + 3)) e1).toNat : Nat) : Int))), (6, .int (iI 0))]) hl [4, 5, 6, 3, 2, 1, 0] rfl) (lc_s (lc_s (lc_s (lc_s (lc_s (lc_s (lc_i (show (0 : Int) = ((0 : Nat) : Int) by omega) rfl))))))))
                  · skip
                    refine n_iconst hx hb dX7_findWanted_126 ?_
                    refine n_zretP (t := False) hQ hx hb hr hlocks rfl hP hS dX7_findWanted_127 ?_
                    exact ⟨hfr, by rw [if_neg (by rw [allB_f (P := (fun q9 => okI lst (chI (Ra 0) (Ra 1) (fun s1 q => Va (8 * s1 + q)) (fun q => Xs (80 * t + 4 * q)) (fun q => Xs (80 * t + 4 * q + 1)) (fun q => Xs (80 * t + 4 * q + 2)) (fun q => Xs (80 * t + 4 * q + 3)) q9))) (q := e1) (decide_eq_false (fun h9 => h9.2 (by rw [← hq9.1, ← hre]; exact hc123))) (Ex t) (by omega)]; decide)], ⟨_, f_wa, fun h9 => by rw [allB_f (P := (fun q9 => okI lst (chI (Ra 0) (Ra 1) (fun s1 q => Va (8 * s1 + q)) (fun q => Xs (80 * t + 4 * q)) (fun q => Xs (80 * t + 4 * q + 1)) (fun q => Xs (80 * t + 4 * q + 2)) (fun q => Xs (80 * t + 4 * q + 3)) q9))) (q := e1) (decide_eq_false (fun h9 => h9.2 (by rw [← hq9.1, ← hre]; exact hc123))) (Ex t) (by omega)] at h9; cases h9⟩, ⟨_, f_po⟩, ⟨_, f_by⟩, ⟨_, f_fw⟩, ⟨_, f_tk⟩, ⟨_, f_bd⟩⟩
                · skip
                  refine n_iconst hx hb dX7_findWanted_109 ?_
                  refine n_zretP (t := False) hQ hx hb hr hlocks rfl hP hS dX7_findWanted_110 ?_
                  exact ⟨hfr, by rw [if_neg (by rw [allB_f (P := (fun q9 => okI lst (chI (Ra 0) (Ra 1) (fun s1 q => Va (8 * s1 + q)) (fun q => Xs (80 * t + 4 * q)) (fun q => Xs (80 * t + 4 * q + 1)) (fun q => Xs (80 * t + 4 * q + 2)) (fun q => Xs (80 * t + 4 * q + 3)) q9))) (q := e1) (decide_eq_false (fun h9 => by omega)) (Ex t) (by omega)]; decide)], ⟨_, f_wa, fun h9 => by rw [allB_f (P := (fun q9 => okI lst (chI (Ra 0) (Ra 1) (fun s1 q => Va (8 * s1 + q)) (fun q => Xs (80 * t + 4 * q)) (fun q => Xs (80 * t + 4 * q + 1)) (fun q => Xs (80 * t + 4 * q + 2)) (fun q => Xs (80 * t + 4 * q + 3)) q9))) (q := e1) (decide_eq_false (fun h9 => by omega)) (Ex t) (by omega)] at h9; cases h9⟩, ⟨_, f_po⟩, ⟨_, f_by⟩, ⟨_, f_fw⟩, ⟨_, f_tk⟩, ⟨_, f_bd⟩⟩
        exact lp4 (Ex t - 0 + 1) 0 b9 bd tk0 Fw0 po wa _ _ _ _ (Nat.lt_succ_self _) (by omega) rfl (fun q h9 => absurd h9 (Nat.not_lt_zero _)) (fun k hk9 => by have h9 := hz k (by omega); rw [h9.1, h9.2]; exact ⟨rfl, rfl⟩) hfr f_y f_Co f_Va f_Ra f_Ex f_Xs f_by f_fw f_tk f_bd f_po f_wa hP hS (by first | exact lv_sub hl [1, 2, 0] rfl | exact lv_cast (lv_sub (l' := [(0, .ref (ad y)), (1, .int (iI ((t : Nat) : Int))), (2, .int (iI 0))]) hl [1, 2, 0] rfl) (lc_s (lc_s (lc_i (show (0 : Int) = ((0 : Nat) : Int) by omega) rfl))))
      · skip
        refine lv_aload_n hx hb dX7_findWanted_8 rfl (lv_at hl 0 rfl) ?_
        refine n_get hx hb hts u_X7 hown hK hP (by omega) f_y rfl 24 (by decide) (nT_m wf_X7_80) rfl dX7_findWanted_9 ?_
        refine lv_iload_n hx hb dX7_findWanted_12 rfl (lv_at hl 2 rfl) ?_
        refine n_iconst hx hb dX7_findWanted_13 ?_
        refine n_iast hx hb hK hJ hP hS q (by omega) f_po (by omega) (by omega) (by decide) dX7_findWanted_14 (fun w43 H locs f_po hne44 hP hS => ?_)
        have f_y := (hne44 y (by omega)).trans f_y
        have f_Co := (hne44 (y + 1) (by omega)).trans f_Co
        have f_Va := (hne44 (y + 2) (by omega)).trans f_Va
        have f_Ra := (hne44 (y + 3) (by omega)).trans f_Ra
        have f_Ex := (hne44 (y + 13) (by omega)).trans f_Ex
        have f_Xs := (hne44 (y + 17) (by omega)).trans f_Xs
        have f_by := (hne44 (y + 19) (by omega)).trans f_by
        have f_fw := (hne44 (y + 20) (by omega)).trans f_fw
        have f_tk := (hne44 (y + 21) (by omega)).trans f_tk
        have f_bd := (hne44 (y + 22) (by omega)).trans f_bd
        have f_wa := (hne44 (y + 25) (by omega)).trans f_wa
        have hfr : ∀ j, j ≠ (y + 19) → j ≠ (y + 20) → j ≠ (y + 21) → j ≠ (y + 22) → j ≠ (y + 24) → j ≠ (y + 25) → w43 j = w j := fun j a0 a1 a2 a3 a4 a5 => (hne44 j (by omega)).trans (hfr j a0 a1 a2 a3 a4 a5)
        refine lv_aload_n hx hb dX7_findWanted_15 rfl (lv_at hl 0 rfl) ?_
        refine n_get hx hb hts u_X7 hown hK hP (by omega) f_y rfl 25 (by decide) (nT_m wf_X7_83) rfl dX7_findWanted_16 ?_
        refine lv_iload_n hx hb dX7_findWanted_19 rfl (lv_at hl 2 rfl) ?_
        refine n_iconst hx hb dX7_findWanted_20 ?_
        refine n_iast hx hb hK hJ hP hS q (by omega) f_wa (by omega) (by omega) (by decide) dX7_findWanted_21 (fun w45 H locs f_wa hne46 hP hS => ?_)
        have f_y := (hne46 y (by omega)).trans f_y
        have f_Co := (hne46 (y + 1) (by omega)).trans f_Co
        have f_Va := (hne46 (y + 2) (by omega)).trans f_Va
        have f_Ra := (hne46 (y + 3) (by omega)).trans f_Ra
        have f_Ex := (hne46 (y + 13) (by omega)).trans f_Ex
        have f_Xs := (hne46 (y + 17) (by omega)).trans f_Xs
        have f_by := (hne46 (y + 19) (by omega)).trans f_by
        have f_fw := (hne46 (y + 20) (by omega)).trans f_fw
        have f_tk := (hne46 (y + 21) (by omega)).trans f_tk
        have f_bd := (hne46 (y + 22) (by omega)).trans f_bd
        have f_po := (hne46 (y + 24) (by omega)).trans f_po
        have hfr : ∀ j, j ≠ (y + 19) → j ≠ (y + 20) → j ≠ (y + 21) → j ≠ (y + 22) → j ≠ (y + 24) → j ≠ (y + 25) → w45 j = w j := fun j a0 a1 a2 a3 a4 a5 => (hne46 j (by omega)).trans (hfr j a0 a1 a2 a3 a4 a5)
        refine lv_iinc (v := iI (((q : Nat) : Int) + 1)) (lv' := [(2, .int (iI (((q : Nat) : Int) + 1))), (0, .ref (ad y)), (1, .int (iI ((t : Nat) : Int)))]) hx hb dX7_findWanted_22 hl (k := 2) rfl (by first | exact iI_add _ _ | exact (iI_add _ _).trans (congrArg iI (by omega))) (by decide) rfl (fun ls hl => ?_)
        refine lv_goto (tgt := 2) hx hb dX7_findWanted_25 (by decide) ?_
        exact ih3 (q + 1) (va_up po q 0) (va_up wa q 0) _ _ _ _ (by omega) (by omega) (fun j hj9 => (Decidable.em (j = q)).elim (fun e9 => by rw [e9, va_up_self, va_up_self]; exact ⟨rfl, rfl⟩) (fun e9 => by rw [va_up_ne _ _ e9, va_up_ne _ _ e9]; exact hz j (by omega))) hfr f_y f_Co f_Va f_Ra f_Ex f_Xs f_by f_fw f_tk f_bd f_po f_wa hP hS (by first | exact lv_sub hl [1, 2, 0] rfl | exact lv_cast (lv_sub (l' := [(0, .ref (ad y)), (1, .int (iI ((t : Nat) : Int))), (2, .int (iI (((q : Nat) : Int) + 1)))]) hl [1, 2, 0] rfl) (lc_s (lc_s (lc_i (show ((((q : Nat) : Int) + 1) : Int) = (((q + 1) : Nat) : Int) by omega) rfl))))
  exact lp1 (8 - 0 + 1) 0 po wa _ _ _ _ (Nat.lt_succ_self _) (by omega) (fun j h9 => absurd h9 (Nat.not_lt_zero _)) hfr f_y f_Co f_Va f_Ra f_Ex f_Xs f_by f_fw f_tk f_bd f_po f_wa hP hS (by first | exact lv_sub hl [1, 2, 0] rfl | exact lv_cast (lv_sub (l' := [(0, .ref (ad y)), (1, .int (iI ((t : Nat) : Int))), (2, .int (iI 0))]) hl [1, 2, 0] rfl) (lc_s (lc_s (lc_i (show (0 : Int) = ((0 : Nat) : Int) by omega) rfl))))
