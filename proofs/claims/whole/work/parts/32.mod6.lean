
def oneF (o : Nat → Int) (f : Nat → Nat → Int) (q : Nat) : Nat → Int := fun k => if k < 2 * q then f (k / 2) (k % 2) else o k
theorem oneF_0 (o : Nat → Int) (f : Nat → Nat → Int) : oneF o f 0 = o := by
  funext k
  unfold oneF
  rw [if_neg (by omega)]
theorem oneF_s (o : Nat → Int) (f : Nat → Nat → Int) (q : Nat) : va_up (va_up (oneF o f q) (2 * q) (f q 0)) (2 * q + 1) (f q 1) = oneF o f (q + 1) := by
  funext k
  by_cases e1 : k = 2 * q + 1
  · rw [e1, va_up_self]
    unfold oneF
    rw [if_pos (by omega), show (2 * q + 1) / 2 = q by omega, show (2 * q + 1) % 2 = 1 by omega]
  · rw [va_up_ne _ _ e1]
    by_cases e2 : k = 2 * q
    · rw [e2, va_up_self]
      unfold oneF
      rw [if_pos (by omega), show 2 * q / 2 = q by omega, show 2 * q % 2 = 0 by omega]
    · rw [va_up_ne _ _ e2]
      unfold oneF
      by_cases h : k < 2 * q
      · rw [if_pos h, if_pos (by omega)]
      · rw [if_neg h, if_neg (by omega)]
theorem oneF_at {o : Nat → Int} {f : Nat → Nat → Int} {q g b : Nat} (hg : g < q) (hb : b ≤ 1) : oneF o f q (2 * g + b) = f g b := by
  unfold oneF
  rw [if_pos (by omega), show (2 * g + b) / 2 = g by omega, show (2 * g + b) % 2 = b by omega]
def fbW (S : Nat → Int) : Nat → Nat
  | 0 => 0
  | v + 1 => faB S v
def fnW (S : Nat → Int) : Nat → Int
  | 0 => -1
  | v + 1 => faN S v
theorem fnW_rng (S : Nat → Int) : ∀ v, -1 ≤ fnW S v ∧ fnW S v ≤ max (S 0) (-(S 0))
  | 0 => by
    show (-1 : Int) ≤ -1 ∧ (-1 : Int) ≤ _
    omega
  | v + 1 => by
    have h1 := faN_0 S v
    have h2 := faN_le S v
    show -1 ≤ faN S v ∧ faN S v ≤ _
    omega
theorem fW_y {S : Nat → Int} : ∀ {v : Nat}, (fnW S v < 0 ∨ max (S v) (-(S v)) < fnW S v) → fnW S (v + 1) = max (S v) (-(S v)) ∧ fbW S (v + 1) = v
  | 0, _ => ⟨rfl, rfl⟩
  | v + 1, h => by
    have h1 := faN_0 S v
    have h2 : max (S (v + 1)) (-(S (v + 1))) < faN S v := h.elim (fun q => by have q2 : faN S v < 0 := q; omega) id
    exact ⟨faN_y h2, faB_y h2⟩
theorem fW_n {S : Nat → Int} : ∀ {v : Nat}, ¬ (fnW S v < 0 ∨ max (S v) (-(S v)) < fnW S v) → fnW S (v + 1) = fnW S v ∧ fbW S (v + 1) = fbW S v
  | 0, h => absurd (Or.inl (by show (-1 : Int) < 0; decide)) h
  | v + 1, h => by
    have h2 : ¬ max (S (v + 1)) (-(S (v + 1))) < faN S v := fun q => h (Or.inr q)
    exact ⟨faN_n h2, faB_n h2⟩
theorem fbW_le (S : Nat → Int) : ∀ v, fbW S v ≤ v
  | 0 => Nat.le_refl _
  | v + 1 => Nat.le_succ_of_le (faB_le S v)
set_option maxHeartbeats 4000000 in
set_option maxRecDepth 100000 in
theorem c_X7_wanted_no {l : Launch} {G : nG} {N : Nat} {ad : Nat → Nat} {w : Nat → va_E} {sz : Nat} (y : Nat) (Co Tl : Nat → Nat) (tz z : Int) (hN : y + 26 < N) (hCo : ∀ k, k < 2 → Co k ≤ 8) (hTl : ∀ k, k < 1 → Tl k ≤ 4) (htz : -2147483648 ≤ tz ∧ tz < 2147483648) (hz : -2147483648 ≤ z ∧ z < 2147483648) (hno : ¬ ((0 ≤ tz ∧ tz < (Tl 0 : Int)) ∧ (0 ≤ z ∧ z < (Co 1 : Int)))) (f_y : w y = .inr (7, [.int (iI 0), .ref (ad (y + 1)), .ref (ad (y + 2)), .ref (ad (y + 3)), .ref (ad (y + 4)), .ref (ad (y + 5)), .ref (ad (y + 6)), .ref (ad (y + 7)), .ref (ad (y + 8)), .ref (ad (y + 9)), .ref (ad (y + 10)), .ref (ad (y + 11)), .ref (ad (y + 12)), .ref (ad (y + 13)), .ref (ad (y + 14)), .ref (ad (y + 15)), .ref (ad (y + 16)), .ref (ad (y + 17)), .ref (ad (y + 18)), .ref (ad (y + 19)), .ref (ad (y + 20)), .ref (ad (y + 21)), .ref (ad (y + 22)), .ref (ad (y + 23)), .ref (ad (y + 24)), .ref (ad (y + 25)), .ref (ad (y + 26))])) (f_Co : w (y + 1) = aI G 8 (fun q => (Co q : Int))) (f_Tl : w (y + 9) = aI G 4 (fun q => (Tl q : Int))) : Met l yX7_wanted wsX7_wanted ({ frames := 3, cells := 0, slots := 0, locals := 80 }) (va_Pc [.ref (ad y), .int (iI tz), .int (iI z)] (nB G N ad w sz)) (nPi G N ad sz (fun r u => (∀ j, u j = w j) ∧ (r = -1))) 0 0 (nA N ad sz) := by
  refine n_ent (cc := cX7_wanted) (maxL := 3) (ret := (some .int)) (by decide) rfl (Nat.le_of_ble_eq_true rfl) ?_
  intro p e s m below meth cd hx hb hr hml hlocks hts hown hnm hsz hP hK hI Q hQ ls hl
  have hown : s.vm.findClass RX7 = some m.cls := hown
  subst hsz
  have hJ := hI.J s.heap.size
  have hS : va_S (nA N ad s.heap.size) s.heap s.heap [] := va_S.rf
  have hfr : ∀ j, w j = w j := fun _  => rfl
  have hl : lv_has ls 3 [(0, .ref (ad y)), (1, .int (iI tz)), (2, .int (iI z))] := hl
  refine lv_aload_n hx hb dX7_wanted_0 rfl (lv_at hl 0 rfl) ?_
  refine n_iconst hx hb dX7_wanted_1 ?_
  refine n_put hx hb hts u_X7 tyX7 tyX7_ok nmX7 hown hK hJ hP hS (by omega) f_y rfl 0 (by decide) (nT_m wf_X7_90) rfl rfl rfl (Nat.le_of_ble_eq_true rfl) dX7_wanted_2 (fun w1 H locs f9 hne9 hP hS => ?_)
  have ew9 : w = w1 := funext fun j9 => (Decidable.em (j9 = y)).elim (fun h9 => by rw [h9, f9]; exact f_y) (fun h9 => (hne9 j9 h9).symm)
  subst ew9
  refine lv_aload_n hx hb dX7_wanted_5 rfl (lv_at hl 0 rfl) ?_
  refine lv_iload_n hx hb dX7_wanted_6 rfl (lv_at hl 1 rfl) ?_
  refine n_rdF (va_runV (As := [.int (iI tz)]) (rest := []) ⟨hx, hb, hml, hown, hts⟩ (c_X7_isTill _ Tl tz (by omega) hTl (by omega) f_y f_Tl) (cwV 1 hts (nT_V wl_X7_138 wi_X7_isTill ws_X7_isTill wn_X7 wc_X7_isTill) rfl rfl rfl (by decide +kernel) ⟨Nat.le_of_ble_eq_true rfl, Nat.le_of_ble_eq_true rfl⟩) (nB.preV hK hI hP (by omega) f_y rfl rfl) rfl rfl hl.1 rfl (lv_room (Nat.le_of_ble_eq_true rfl)) dX7_wanted_7 ⟨Nat.zero_le _, Nat.zero_le _⟩) ?_
  refine n_if_eqB (tgt := 39) hx hb dX7_wanted_10 (by decide) (fun hc10 => ?_) (fun hc10 => ?_)
  · skip
    refine n_iconst hx hb dX7_wanted_39 ?_
    refine n_iretP hQ hx hb hr hlocks hP hS dX7_wanted_40 ?_
    exact ⟨hfr, rfl⟩
  · skip
    refine lv_aload_n hx hb dX7_wanted_13 rfl (lv_at hl 0 rfl) ?_
    refine n_iconst hx hb dX7_wanted_14 ?_
    refine lv_iload_n hx hb dX7_wanted_15 rfl (lv_at hl 2 rfl) ?_
    refine n_rdF (va_runV (As := [.int (iI 1), .int (iI z)]) (rest := []) ⟨hx, hb, hml, hown, hts⟩ (c_X7_isCoin _ Co 1 z (by omega) hCo (by omega) (by omega) f_y f_Co) (cwV 2 hts (nT_V wl_X7_121 wi_X7_isCoin ws_X7_isCoin wn_X7 wc_X7_isCoin) rfl rfl rfl (by decide +kernel) ⟨Nat.le_of_ble_eq_true rfl, Nat.le_of_ble_eq_true rfl⟩) (nB.preV hK hI hP (by omega) f_y rfl rfl) rfl rfl hl.1 rfl (lv_room (Nat.le_of_ble_eq_true rfl)) dX7_wanted_16 ⟨Nat.zero_le _, Nat.zero_le _⟩) ?_
    refine n_if_eqB (tgt := 39) hx hb dX7_wanted_19 (by decide) (fun hc19 => ?_) (fun hc19 => ?_)
    · skip
      refine n_iconst hx hb dX7_wanted_39 ?_
      refine n_iretP hQ hx hb hr hlocks hP hS dX7_wanted_40 ?_
      exact ⟨hfr, rfl⟩
    · skip
      exact absurd ⟨hc10, hc19.2⟩ hno
set_option maxHeartbeats 4000000 in
set_option maxRecDepth 100000 in
theorem c_X7_wanted_yes {l : Launch} {G : nG} {N : Nat} {ad : Nat → Nat} {w : Nat → va_E} {sz : Nat} (y : Nat) (Co Va Ra Tl Ex Xs : Nat → Nat) (t : Nat) (b9 bd tk0 : Nat → Nat) (Fw0 : Nat → Int) (lst : Nat → Int) (tkq : Nat → Nat → Int) (po wa : Nat → Int) (kk : Nat) (hN : y + 26 < N) (hCo : ∀ k, k < 2 → Co k ≤ 8) (hVa : ∀ k, k < 16 → Va k ≤ 1000) (hRa : ∀ k, k < 2 → 1 ≤ Ra k ∧ Ra k ≤ 100) (hTl : ∀ k, k < 1 → Tl k ≤ 4) (hEx : ∀ k, k < 4 → Ex k ≤ 20) (htt : t < Tl 0) (hk : kk < Co 1) (hex : ∀ q, q < Ex t → (1 ≤ Xs (80 * t + 4 * q) ∧ Xs (80 * t + 4 * q) ≤ 2000) ∧ (1 ≤ Xs (80 * t + 4 * q + 3) ∧ Xs (80 * t + 4 * q + 3) ≤ 50) ∧ Xs (80 * t + 4 * q + 1) < 2 ∧ Xs (80 * t + 4 * q + 2) < Co (Xs (80 * t + 4 * q + 1))) (hV1 : ∀ k, k < Co 1 → 1 ≤ Va (8 * 1 + k)) (hfw : fwOK (fun q9 => Va (8 * 1 + q9)) (Co 1) lst tkq) (htr : ∀ sm k, sm ≤ 2000 → 0 ≤ tkq sm k ∧ tkq sm k ≤ 2000) (f_y : w y = .inr (7, [.int (iI 0), .ref (ad (y + 1)), .ref (ad (y + 2)), .ref (ad (y + 3)), .ref (ad (y + 4)), .ref (ad (y + 5)), .ref (ad (y + 6)), .ref (ad (y + 7)), .ref (ad (y + 8)), .ref (ad (y + 9)), .ref (ad (y + 10)), .ref (ad (y + 11)), .ref (ad (y + 12)), .ref (ad (y + 13)), .ref (ad (y + 14)), .ref (ad (y + 15)), .ref (ad (y + 16)), .ref (ad (y + 17)), .ref (ad (y + 18)), .ref (ad (y + 19)), .ref (ad (y + 20)), .ref (ad (y + 21)), .ref (ad (y + 22)), .ref (ad (y + 23)), .ref (ad (y + 24)), .ref (ad (y + 25)), .ref (ad (y + 26))])) (f_Co : w (y + 1) = aI G 8 (fun q => (Co q : Int))) (f_Va : w (y + 2) = aI G 64 (fun q => (Va q : Int))) (f_Ra : w (y + 3) = aI G 8 (fun q => (Ra q : Int))) (f_Tl : w (y + 9) = aI G 4 (fun q => (Tl q : Int))) (f_Ex : w (y + 13) = aI G 16 (fun q => (Ex q : Int))) (f_Xs : w (y + 17) = aI G 1280 (fun q => (Xs q : Int))) (f_by : w (y + 19) = aI G 8 (fun q => (b9 q : Int))) (f_fw : w (y + 20) = aI G 18009 Fw0) (f_tk : w (y + 21) = aI G 8 (fun q => (tk0 q : Int))) (f_bd : w (y + 22) = aI G 8 (fun q => (bd q : Int))) (f_po : w (y + 24) = aI G 8 po) (f_wa : w (y + 25) = aI G 8 wa) : Met l yX7_wanted wsX7_wanted ({ frames := 3, cells := 0, slots := 0, locals := 80 }) (va_Pc [.ref (ad y), .int (iI ((t : Nat) : Int)), .int (iI ((kk : Nat) : Int))] (nB G N ad w sz)) (nPi G N ad sz (fun r u => (∀ j, j ≠ (y + 19) → j ≠ (y + 20) → j ≠ (y + 21) → j ≠ (y + 22) → j ≠ (y + 24) → j ≠ (y + 25) → u j = w j) ∧ (r = if allB (fun q9 => okI lst (chI (Ra 0) (Ra 1) (fun s1 q => Va (8 * s1 + q)) (fun q => Xs (80 * t + 4 * q)) (fun q => Xs (80 * t + 4 * q + 1)) (fun q => Xs (80 * t + 4 * q + 2)) (fun q => Xs (80 * t + 4 * q + 3)) q9)) (Ex t) = true then (mlM (fun q9 => tkq (chI (Ra 0) (Ra 1) (fun s1 q => Va (8 * s1 + q)) (fun q => Xs (80 * t + 4 * q)) (fun q => Xs (80 * t + 4 * q + 1)) (fun q => Xs (80 * t + 4 * q + 2)) (fun q => Xs (80 * t + 4 * q + 3)) q9).toNat kk) (fun q9 => mlA (fun q => Xs (80 * t + 4 * q + 1)) (fun q => Xs (80 * t + 4 * q + 2)) (fun q => Xs (80 * t + 4 * q + 3)) kk q9) (Ex t)) else -1) ∧ (∃ B1 : Nat → Nat, u (y + 19) = aI G 8 (fun q => (B1 q : Int))) ∧ (∃ F1 : Nat → Int, u (y + 20) = aI G 18009 F1) ∧ (∃ T1 : Nat → Nat, u (y + 21) = aI G 8 (fun q => (T1 q : Int))) ∧ (∃ D1 : Nat → Nat, u (y + 22) = aI G 8 (fun q => (D1 q : Int))) ∧ (∃ P1 : Nat → Int, u (y + 24) = aI G 8 P1) ∧ (∃ W1 : Nat → Int, u (y + 25) = aI G 8 W1))) 0 0 (nA N ad sz) := by
  refine n_ent (cc := cX7_wanted) (maxL := 3) (ret := (some .int)) (by decide) rfl (Nat.le_of_ble_eq_true rfl) ?_
  intro p e s m below meth cd hx hb hr hml hlocks hts hown hnm hsz hP hK hI Q hQ ls hl
  have hown : s.vm.findClass RX7 = some m.cls := hown
  subst hsz
  have hJ := hI.J s.heap.size
  have hS : va_S (nA N ad s.heap.size) s.heap s.heap [] := va_S.rf
  have hfr : ∀ j, j ≠ (y + 19) → j ≠ (y + 20) → j ≠ (y + 21) → j ≠ (y + 22) → j ≠ (y + 24) → j ≠ (y + 25) → w j = w j := fun _ _ _ _ _ _ _ => rfl
  have hl : lv_has ls 3 [(0, .ref (ad y)), (1, .int (iI ((t : Nat) : Int))), (2, .int (iI ((kk : Nat) : Int)))] := hl
  have ht0 := hTl 0 (by omega)
  have hc1 := hCo 1 (by omega)
  have hk2 : ((kk : Nat) : Int) < (Co (1 : Int).toNat : Int) := by show ((kk : Nat) : Int) < (Co 1 : Int); omega
  refine lv_aload_n hx hb dX7_wanted_0 rfl (lv_at hl 0 rfl) ?_
  refine n_iconst hx hb dX7_wanted_1 ?_
  refine n_put hx hb hts u_X7 tyX7 tyX7_ok nmX7 hown hK hJ hP hS (by omega) f_y rfl 0 (by decide) (nT_m wf_X7_90) rfl rfl rfl (Nat.le_of_ble_eq_true rfl) dX7_wanted_2 (fun w1 H locs f9 hne9 hP hS => ?_)
  have ew9 : w = w1 := funext fun j9 => (Decidable.em (j9 = y)).elim (fun h9 => by rw [h9, f9]; exact f_y) (fun h9 => (hne9 j9 h9).symm)
  subst ew9
  refine lv_aload_n hx hb dX7_wanted_5 rfl (lv_at hl 0 rfl) ?_
  refine lv_iload_n hx hb dX7_wanted_6 rfl (lv_at hl 1 rfl) ?_
  refine n_rdF (va_runV (As := [.int (iI ((t : Nat) : Int))]) (rest := []) ⟨hx, hb, hml, hown, hts⟩ (c_X7_isTill _ Tl ((t : Nat) : Int) (by omega) hTl (by omega) f_y f_Tl) (cwV 1 hts (nT_V wl_X7_138 wi_X7_isTill ws_X7_isTill wn_X7 wc_X7_isTill) rfl rfl rfl (by decide +kernel) ⟨Nat.le_of_ble_eq_true rfl, Nat.le_of_ble_eq_true rfl⟩) (nB.preV hK hI hP (by omega) f_y rfl rfl) rfl rfl hl.1 rfl (lv_room (Nat.le_of_ble_eq_true rfl)) dX7_wanted_7 ⟨Nat.zero_le _, Nat.zero_le _⟩) ?_
  refine n_if_eqB (tgt := 39) hx hb dX7_wanted_10 (by decide) (fun hc10 => ?_) (fun hc10 => ?_)
  · skip
    exact absurd hc10 (by omega)
  · skip
    refine lv_aload_n hx hb dX7_wanted_13 rfl (lv_at hl 0 rfl) ?_
    refine n_iconst hx hb dX7_wanted_14 ?_
    refine lv_iload_n hx hb dX7_wanted_15 rfl (lv_at hl 2 rfl) ?_
    refine n_rdF (va_runV (As := [.int (iI 1), .int (iI ((kk : Nat) : Int))]) (rest := []) ⟨hx, hb, hml, hown, hts⟩ (c_X7_isCoin _ Co 1 ((kk : Nat) : Int) (by omega) hCo (by omega) (by omega) f_y f_Co) (cwV 2 hts (nT_V wl_X7_121 wi_X7_isCoin ws_X7_isCoin wn_X7 wc_X7_isCoin) rfl rfl rfl (by decide +kernel) ⟨Nat.le_of_ble_eq_true rfl, Nat.le_of_ble_eq_true rfl⟩) (nB.preV hK hI hP (by omega) f_y rfl rfl) rfl rfl hl.1 rfl (lv_room (Nat.le_of_ble_eq_true rfl)) dX7_wanted_16 ⟨Nat.zero_le _, Nat.zero_le _⟩) ?_
    refine n_if_eqB (tgt := 39) hx hb dX7_wanted_19 (by decide) (fun hc19 => ?_) (fun hc19 => ?_)
    · skip
      exact absurd ⟨by omega, by omega, hk2⟩ hc19
    · skip
      refine lv_aload_n hx hb dX7_wanted_22 rfl (lv_at hl 0 rfl) ?_
      refine lv_iload_n hx hb dX7_wanted_23 rfl (lv_at hl 1 rfl) ?_
      refine n_cI (va_runV (As := [.int (iI ((t : Nat) : Int))]) (rest := []) ⟨hx, hb, hml, hown, hts⟩ (c_X7_findWanted y Co Va Ra Ex Xs t b9 bd tk0 Fw0 lst tkq po wa (by omega) hCo hVa hRa hEx (by omega) hex hV1 hfw htr f_y f_Co f_Va f_Ra f_Ex f_Xs f_by f_fw f_tk f_bd f_po f_wa) (cwV 1 hts (nT_V wl_X7_152 wi_X7_findWanted ws_X7_findWanted wn_X7 wc_X7_findWanted) rfl rfl rfl (by decide +kernel) ⟨Nat.le_of_ble_eq_true rfl, Nat.le_of_ble_eq_true rfl⟩) (nB.preV hK hI hP (by omega) f_y rfl rfl) rfl rfl hl.1 rfl (lv_room (Nat.le_of_ble_eq_true rfl)) dX7_wanted_24 ⟨Nat.zero_le _, Nat.zero_le _⟩) hS (fun r4 w3 H locs hq5 hP hS => ?_)
      obtain ⟨hne6, hr9, ⟨wa1, hp_wa, hwa⟩, ⟨P1, hp_po⟩, ⟨B1, hp_by⟩, ⟨F1, hp_fw⟩, ⟨T1, hp_tk⟩, ⟨D1, hp_bd⟩⟩ := hq5
      have f_y := (hne6 y (by omega) (by omega) (by omega) (by omega) (by omega) (by omega)).trans f_y
      have f_Co := (hne6 (y + 1) (by omega) (by omega) (by omega) (by omega) (by omega) (by omega)).trans f_Co
      have f_Va := (hne6 (y + 2) (by omega) (by omega) (by omega) (by omega) (by omega) (by omega)).trans f_Va
      have f_Ra := (hne6 (y + 3) (by omega) (by omega) (by omega) (by omega) (by omega) (by omega)).trans f_Ra
      have f_Tl := (hne6 (y + 9) (by omega) (by omega) (by omega) (by omega) (by omega) (by omega)).trans f_Tl
      have f_Ex := (hne6 (y + 13) (by omega) (by omega) (by omega) (by omega) (by omega) (by omega)).trans f_Ex
      have f_Xs := (hne6 (y + 17) (by omega) (by omega) (by omega) (by omega) (by omega) (by omega)).trans f_Xs
      have f_by : w3 (y + 19) = aI G 8 (fun q => (B1 q : Int)) := hp_by
      have f_fw : w3 (y + 20) = aI G 18009 F1 := hp_fw
      have f_tk : w3 (y + 21) = aI G 8 (fun q => (T1 q : Int)) := hp_tk
      have f_bd : w3 (y + 22) = aI G 8 (fun q => (D1 q : Int)) := hp_bd
      have f_po : w3 (y + 24) = aI G 8 P1 := hp_po
      have f_wa : w3 (y + 25) = aI G 8 wa1 := hp_wa
      have hfr : ∀ j, j ≠ (y + 19) → j ≠ (y + 20) → j ≠ (y + 21) → j ≠ (y + 22) → j ≠ (y + 24) → j ≠ (y + 25) → w3 j = w j := fun j a0 a1 a2 a3 a4 a5 => (hne6 j (by omega) (by omega) (by omega) (by omega) (by omega) (by omega)).trans (hfr j a0 a1 a2 a3 a4 a5)
      have hr8 : r4 = 0 ∨ r4 = 1 := by rw [hr9]; split; exact Or.inr rfl; exact Or.inl rfl
      refine n_if_eq (tgt := 39) hx hb dX7_wanted_27 (by decide) (by omega) (fun hc27 => ?_) (fun hc27 => ?_)
      · skip
        refine n_iconst hx hb dX7_wanted_39 ?_
        refine n_iretP hQ hx hb hr hlocks hP hS dX7_wanted_40 ?_
        have hal : ¬ allB (fun q9 => okI lst (chI (Ra 0) (Ra 1) (fun s1 q => Va (8 * s1 + q)) (fun q => Xs (80 * t + 4 * q)) (fun q => Xs (80 * t + 4 * q + 1)) (fun q => Xs (80 * t + 4 * q + 2)) (fun q => Xs (80 * t + 4 * q + 3)) q9)) (Ex t) = true := fun h9 => by rw [if_pos h9] at hr9; omega
        exact ⟨hfr, by rw [if_neg hal], ⟨_, f_by⟩, ⟨_, f_fw⟩, ⟨_, f_tk⟩, ⟨_, f_bd⟩, ⟨_, f_po⟩, ⟨_, f_wa⟩⟩
      · skip
        refine lv_aload_n hx hb dX7_wanted_30 rfl (lv_at hl 0 rfl) ?_
        refine n_get hx hb hts u_X7 hown hK hP (by omega) f_y rfl 25 (by decide) (nT_m wf_X7_83) rfl dX7_wanted_31 ?_
        refine lv_iload_n hx hb dX7_wanted_34 rfl (lv_at hl 2 rfl) ?_
        refine n_iald hx hb hK hP kk (by omega) f_wa (by omega) (by omega) (by decide) dX7_wanted_35 ?_
        refine lv_goto (tgt := 40) hx hb dX7_wanted_36 (by decide) ?_
        refine n_iretP hQ hx hb hr hlocks hP hS dX7_wanted_40 ?_
        have hal : allB (fun q9 => okI lst (chI (Ra 0) (Ra 1) (fun s1 q => Va (8 * s1 + q)) (fun q => Xs (80 * t + 4 * q)) (fun q => Xs (80 * t + 4 * q + 1)) (fun q => Xs (80 * t + 4 * q + 2)) (fun q => Xs (80 * t + 4 * q + 3)) q9)) (Ex t) = true := Decidable.byContradiction fun h9 => by rw [if_neg h9] at hr9; omega
        exact ⟨hfr, by rw [if_pos hal]; exact hwa hal kk hk, ⟨_, f_by⟩, ⟨_, f_fw⟩, ⟨_, f_tk⟩, ⟨_, f_bd⟩, ⟨_, f_po⟩, ⟨_, f_wa⟩⟩
set_option maxHeartbeats 4000000 in
set_option maxRecDepth 100000 in
theorem c_X7_fairest {l : Launch} {G : nG} {N : Nat} {ad : Nat → Nat} {w : Nat → va_E} {sz : Nat} (y : Nat) (Ra Go Pr Ti St : Nat → Nat) (on0 : Nat → Int) (hN : y + 26 < N) (hRa : ∀ k, k < 2 → 1 ≤ Ra k ∧ Ra k ≤ 100) (hGo : ∀ k, k < 1 → Go k ≤ 14) (hPr : ∀ k, k < 14 → Pr k ≤ 10000) (hTi : ∀ k, k < 14 → Ti k ≤ 100) (hSt : ∀ k, k < 1 → 1 ≤ St k ∧ St k ≤ 100) (f_y : w y = .inr (7, [.int (iI 0), .ref (ad (y + 1)), .ref (ad (y + 2)), .ref (ad (y + 3)), .ref (ad (y + 4)), .ref (ad (y + 5)), .ref (ad (y + 6)), .ref (ad (y + 7)), .ref (ad (y + 8)), .ref (ad (y + 9)), .ref (ad (y + 10)), .ref (ad (y + 11)), .ref (ad (y + 12)), .ref (ad (y + 13)), .ref (ad (y + 14)), .ref (ad (y + 15)), .ref (ad (y + 16)), .ref (ad (y + 17)), .ref (ad (y + 18)), .ref (ad (y + 19)), .ref (ad (y + 20)), .ref (ad (y + 21)), .ref (ad (y + 22)), .ref (ad (y + 23)), .ref (ad (y + 24)), .ref (ad (y + 25)), .ref (ad (y + 26))])) (f_Ra : w (y + 3) = aI G 8 (fun q => (Ra q : Int))) (f_Go : w (y + 5) = aI G 4 (fun q => (Go q : Int))) (f_Pr : w (y + 6) = aI G 56 (fun q => (Pr q : Int))) (f_Ti : w (y + 7) = aI G 56 (fun q => (Ti q : Int))) (f_St : w (y + 8) = aI G 4 (fun q => (St q : Int))) (f_one : w (y + 18) = aJ G 28 on0) : Met l yX7_fairest wsX7_fairest ({ frames := 2, cells := 0, slots := 0, locals := 50 }) (va_Pc [.ref (ad y)] (nB G N ad w sz)) (nPi G N ad sz (fun r u => (∀ j, j ≠ (y + 18) → u j = w j) ∧ (r = ((faB (fun x9 => (sumI (fun g9 => gnV Pr Ti (Ra 0) (Ra 1) (St 0) g9 (if bt ((x9 : Nat) : Int) g9 = 1 then 1 else 0)) (Go 0))) (2 ^ (Go 0) - 1) : Nat) : Int)) ∧ (∃ O1 : Nat → Int, u (y + 18) = aJ G 28 O1))) 0 0 (nA N ad sz) := by
  refine n_ent (cc := cX7_fairest) (maxL := 8) (ret := (some .int)) (by decide) rfl (Nat.le_of_ble_eq_true rfl) ?_
  intro p e s m below meth cd hx hb hr hml hlocks hts hown hnm hsz hP hK hI Q hQ ls hl
  have hown : s.vm.findClass RX7 = some m.cls := hown
  subst hsz
  have hJ := hI.J s.heap.size
  have hS : va_S (nA N ad s.heap.size) s.heap s.heap [] := va_S.rf
  have hfr : ∀ j, j ≠ (y + 18) → w j = w j := fun _ _ => rfl
  have hl : lv_has ls 8 [(0, .ref (ad y))] := hl
  have hg0 := hGo 0 (by omega)
  have hSr : ∀ x9 : Nat, -28000000000000 ≤ (fun x9 => (sumI (fun g9 => gnV Pr Ti (Ra 0) (Ra 1) (St 0) g9 (if bt ((x9 : Nat) : Int) g9 = 1 then 1 else 0)) (Go 0))) x9 ∧ (fun x9 => (sumI (fun g9 => gnV Pr Ti (Ra 0) (Ra 1) (St 0) g9 (if bt ((x9 : Nat) : Int) g9 = 1 then 1 else 0)) (Go 0))) x9 ≤ 28000000000000 := fun x9 => by have h9 := sumI_rng (f := fun g9 => gnV Pr Ti (Ra 0) (Ra 1) (St 0) g9 (if bt ((x9 : Nat) : Int) g9 = 1 then 1 else 0)) (B := 2000000000000) (by decide) (Go 0) (fun k hk9 => gnV_rng (hPr k (by omega)) (hTi k (by omega)) (hRa 0 (by omega)).2 (hRa 1 (by omega)).2 (hSt 0 (by omega)).2); show -28000000000000 ≤ (sumI (fun g9 => gnV Pr Ti (Ra 0) (Ra 1) (St 0) g9 (if bt ((x9 : Nat) : Int) g9 = 1 then 1 else 0)) (Go 0)) ∧ (sumI (fun g9 => gnV Pr Ti (Ra 0) (Ra 1) (St 0) g9 (if bt ((x9 : Nat) : Int) g9 = 1 then 1 else 0)) (Go 0)) ≤ 28000000000000; omega
  have hp2 : 2 ^ (Go 0) ≤ 2 ^ 14 := Nat.pow_le_pow_right (by decide) hg0
  have hp0 : 0 < 2 ^ (Go 0) := Nat.two_pow_pos (Go 0)
  refine lv_aload_n hx hb dX7_fairest_0 rfl (lv_at hl 0 rfl) ?_
  refine n_iconst hx hb dX7_fairest_1 ?_
  refine n_put hx hb hts u_X7 tyX7 tyX7_ok nmX7 hown hK hJ hP hS (by omega) f_y rfl 0 (by decide) (nT_m wf_X7_90) rfl rfl rfl (Nat.le_of_ble_eq_true rfl) dX7_fairest_2 (fun w1 H locs f9 hne9 hP hS => ?_)
  have ew9 : w = w1 := funext fun j9 => (Decidable.em (j9 = y)).elim (fun h9 => by rw [h9, f9]; exact f_y) (fun h9 => (hne9 j9 h9).symm)
  subst ew9
  refine n_iconst hx hb dX7_fairest_5 ?_
  refine lv_istore_n (lv' := [(1, .int (iI 0)), (0, .ref (ad y))]) hx hb dX7_fairest_6 rfl hl (by decide) rfl (fun ls hl => ?_)
  have lp3 : ∀ (fu : Nat), ∀ (q : Nat), ∀ (w4 : Nat → va_E) (H : Heap) (locs : List Loc), ∀ (ls : Array Slot), Go 0 - q < fu → q ≤ Go 0 → (∀ j, j ≠ (y + 18) → w4 j = w j) → w4 y = .inr (7, [.int (iI 0), .ref (ad (y + 1)), .ref (ad (y + 2)), .ref (ad (y + 3)), .ref (ad (y + 4)), .ref (ad (y + 5)), .ref (ad (y + 6)), .ref (ad (y + 7)), .ref (ad (y + 8)), .ref (ad (y + 9)), .ref (ad (y + 10)), .ref (ad (y + 11)), .ref (ad (y + 12)), .ref (ad (y + 13)), .ref (ad (y + 14)), .ref (ad (y + 15)), .ref (ad (y + 16)), .ref (ad (y + 17)), .ref (ad (y + 18)), .ref (ad (y + 19)), .ref (ad (y + 20)), .ref (ad (y + 21)), .ref (ad (y + 22)), .ref (ad (y + 23)), .ref (ad (y + 24)), .ref (ad (y + 25)), .ref (ad (y + 26))]) → w4 (y + 3) = aI G 8 (fun q => (Ra q : Int)) → w4 (y + 5) = aI G 4 (fun q => (Go q : Int)) → w4 (y + 6) = aI G 56 (fun q => (Pr q : Int)) → w4 (y + 7) = aI G 56 (fun q => (Ti q : Int)) → w4 (y + 8) = aI G 4 (fun q => (St q : Int)) → w4 (y + 18) = aJ G 28 (oneF on0 (fun a9 c9 => gnV Pr Ti (Ra 0) (Ra 1) (St 0) a9 c9) q) → va_P G.1 vwCl (nL N ad w4) H → va_S (nA N ad s.heap.size) s.heap H locs → lv_has ls 8 [(0, .ref (ad y)), (1, .int (iI ((q : Nat) : Int)))] → W p l e ({ frames := 2, cells := 0, slots := 0, locals := 50 } : Room) s m ([.ref (ad y)] : List Value).toArray below meth cd H locs 0 0 Q (F0 m 7 ls []) := by
    intro fu
    induction fu with
    | zero =>
      intro q w4 H locs ls hfu hq hfr f_y f_Ra f_Go f_Pr f_Ti f_St f_one hP hS hl
      exact absurd hfu (Nat.not_lt_zero _)
    | succ fu ih5 =>
      intro q w4 H locs ls hfu hq hfr f_y f_Ra f_Go f_Pr f_Ti f_St f_one hP hS hl
      refine lv_iload_n hx hb dX7_fairest_7 rfl (lv_at hl 1 rfl) ?_
      refine lv_aload_n hx hb dX7_fairest_8 rfl (lv_at hl 0 rfl) ?_
      refine n_get hx hb hts u_X7 hown hK hP (by omega) f_y rfl 5 (by decide) (nT_m wf_X7_22) rfl dX7_fairest_9 ?_
      refine n_iconst hx hb dX7_fairest_12 ?_
      refine n_iald hx hb hK hP 0 (by omega) f_Go (by omega) (by omega) (by decide) dX7_fairest_13 ?_
      have ho6 := hGo 0 (by omega)
      refine n_icmp_ge (tgt := 53) hx hb dX7_fairest_14 (by decide) (by omega) (by omega) (fun hc14 => ?_) (fun hc14 => ?_)
      · skip
        have hq9 : q = Go 0 := by omega
        rw [hq9] at f_one
        refine n_iconst hx hb dX7_fairest_53 ?_
        refine lv_istore_n (lv' := [(1, .int (iI 0)), (0, .ref (ad y))]) hx hb dX7_fairest_54 rfl hl (by decide) rfl (fun ls hl => ?_)
        refine lv_ldc2 (v := jI (-1)) hx hb hown (hts _ (nT_m wk_X7_114)) dX7_fairest_55 ?_
        refine lv_lstore_n (lv' := [(2, .long (jI (-1))), (1, .int (iI 0)), (0, .ref (ad y))]) hx hb dX7_fairest_58 rfl hl (by decide) rfl (fun ls hl => ?_)
        refine n_iconst hx hb dX7_fairest_59 ?_
        refine lv_istore (lv' := [(4, .int (iI 0)), (2, .long (jI (-1))), (1, .int (iI 0)), (0, .ref (ad y))]) hx hb dX7_fairest_60 hl (by decide) rfl (fun ls hl => ?_)
        have lp7 : ∀ (fu : Nat), ∀ (w1 : Nat), ∀ (w8 : Nat → va_E) (H : Heap) (locs : List Loc), ∀ (ls : Array Slot), 2 ^ (Go 0) - w1 < fu → w1 ≤ 2 ^ (Go 0) → (∀ j, j ≠ (y + 18) → w8 j = w j) → w8 y = .inr (7, [.int (iI 0), .ref (ad (y + 1)), .ref (ad (y + 2)), .ref (ad (y + 3)), .ref (ad (y + 4)), .ref (ad (y + 5)), .ref (ad (y + 6)), .ref (ad (y + 7)), .ref (ad (y + 8)), .ref (ad (y + 9)), .ref (ad (y + 10)), .ref (ad (y + 11)), .ref (ad (y + 12)), .ref (ad (y + 13)), .ref (ad (y + 14)), .ref (ad (y + 15)), .ref (ad (y + 16)), .ref (ad (y + 17)), .ref (ad (y + 18)), .ref (ad (y + 19)), .ref (ad (y + 20)), .ref (ad (y + 21)), .ref (ad (y + 22)), .ref (ad (y + 23)), .ref (ad (y + 24)), .ref (ad (y + 25)), .ref (ad (y + 26))]) → w8 (y + 3) = aI G 8 (fun q => (Ra q : Int)) → w8 (y + 5) = aI G 4 (fun q => (Go q : Int)) → w8 (y + 6) = aI G 56 (fun q => (Pr q : Int)) → w8 (y + 7) = aI G 56 (fun q => (Ti q : Int)) → w8 (y + 8) = aI G 4 (fun q => (St q : Int)) → w8 (y + 18) = aJ G 28 (oneF on0 (fun a9 c9 => gnV Pr Ti (Ra 0) (Ra 1) (St 0) a9 c9) (Go 0)) → va_P G.1 vwCl (nL N ad w8) H → va_S (nA N ad s.heap.size) s.heap H locs → lv_has ls 8 [(0, .ref (ad y)), (1, .int (iI ((fbW (fun x9 => (sumI (fun g9 => gnV Pr Ti (Ra 0) (Ra 1) (St 0) g9 (if bt ((x9 : Nat) : Int) g9 = 1 then 1 else 0)) (Go 0))) w1 : Nat) : Int))), (2, .long (jI (fnW (fun x9 => (sumI (fun g9 => gnV Pr Ti (Ra 0) (Ra 1) (St 0) g9 (if bt ((x9 : Nat) : Int) g9 = 1 then 1 else 0)) (Go 0))) w1))), (4, .int (iI ((w1 : Nat) : Int)))] → W p l e ({ frames := 2, cells := 0, slots := 0, locals := 50 } : Room) s m ([.ref (ad y)] : List Value).toArray below meth cd H locs 0 0 Q (F0 m 62 ls []) := by
          intro fu
          induction fu with
          | zero =>
            intro w1 w8 H locs ls hfu hw1 hfr f_y f_Ra f_Go f_Pr f_Ti f_St f_one hP hS hl
            exact absurd hfu (Nat.not_lt_zero _)
          | succ fu ih9 =>
            intro w1 w8 H locs ls hfu hw1 hfr f_y f_Ra f_Go f_Pr f_Ti f_St f_one hP hS hl
            have hfr9 := fnW_rng (fun x9 => (sumI (fun g9 => gnV Pr Ti (Ra 0) (Ra 1) (St 0) g9 (if bt ((x9 : Nat) : Int) g9 = 1 then 1 else 0)) (Go 0))) w1
            have hS0 : -28000000000000 ≤ (sumI (fun g9 => gnV Pr Ti (Ra 0) (Ra 1) (St 0) g9 (if bt ((0 : Nat) : Int) g9 = 1 then 1 else 0)) (Go 0)) ∧ (sumI (fun g9 => gnV Pr Ti (Ra 0) (Ra 1) (St 0) g9 (if bt ((0 : Nat) : Int) g9 = 1 then 1 else 0)) (Go 0)) ≤ 28000000000000 := hSr 0
            have hbl := fbW_le (fun x9 => (sumI (fun g9 => gnV Pr Ti (Ra 0) (Ra 1) (St 0) g9 (if bt ((x9 : Nat) : Int) g9 = 1 then 1 else 0)) (Go 0))) w1
            refine lv_iload hx hb dX7_fairest_62 (lv_at hl 3 rfl) ?_
            refine n_iconst hx hb dX7_fairest_64 ?_
            refine lv_aload_n hx hb dX7_fairest_65 rfl (lv_at hl 0 rfl) ?_
            refine n_get hx hb hts u_X7 hown hK hP (by omega) f_y rfl 5 (by decide) (nT_m wf_X7_22) rfl dX7_fairest_66 ?_
            refine n_iconst hx hb dX7_fairest_69 ?_
            refine n_iald hx hb hK hP 0 (by omega) f_Go (by omega) (by omega) (by decide) dX7_fairest_70 ?_
            have ho10 := hGo 0 (by omega)
            refine n_shl1 hx hb (Go 0) (by omega) dX7_fairest_71 ?_
            refine n_icmp_ge (tgt := 162) hx hb dX7_fairest_72 (by decide) (by omega) (by omega) (fun hc72 => ?_) (fun hc72 => ?_)
            · skip
              refine lv_iload_n hx hb dX7_fairest_162 rfl (lv_at hl 1 rfl) ?_
              refine n_iretP hQ hx hb hr hlocks hP hS dX7_fairest_163 ?_
              have hw9 : w1 = 2 ^ (Go 0) := by omega
              refine ⟨hfr, ?_, ⟨_, f_one⟩⟩
              rw [show w1 = (2 ^ (Go 0) - 1) + 1 by omega]
              rfl
            · skip
              refine n_lconst (z := 0) hx hb dX7_fairest_75 (by decide) ?_
              refine lv_lstore (lv' := [(5, .long (jI 0)), (0, .ref (ad y)), (1, .int (iI ((fbW (fun x9 => (sumI (fun g9 => gnV Pr Ti (Ra 0) (Ra 1) (St 0) g9 (if bt ((x9 : Nat) : Int) g9 = 1 then 1 else 0)) (Go 0))) w1 : Nat) : Int))), (2, .long (jI (fnW (fun x9 => (sumI (fun g9 => gnV Pr Ti (Ra 0) (Ra 1) (St 0) g9 (if bt ((x9 : Nat) : Int) g9 = 1 then 1 else 0)) (Go 0))) w1))), (4, .int (iI ((w1 : Nat) : Int)))]) hx hb dX7_fairest_76 hl (by decide) rfl (fun ls hl => ?_)
              refine n_iconst hx hb dX7_fairest_78 ?_
              refine lv_istore (lv' := [(7, .int (iI 0)), (5, .long (jI 0)), (0, .ref (ad y)), (1, .int (iI ((fbW (fun x9 => (sumI (fun g9 => gnV Pr Ti (Ra 0) (Ra 1) (St 0) g9 (if bt ((x9 : Nat) : Int) g9 = 1 then 1 else 0)) (Go 0))) w1 : Nat) : Int))), (2, .long (jI (fnW (fun x9 => (sumI (fun g9 => gnV Pr Ti (Ra 0) (Ra 1) (St 0) g9 (if bt ((x9 : Nat) : Int) g9 = 1 then 1 else 0)) (Go 0))) w1))), (4, .int (iI ((w1 : Nat) : Int)))]) hx hb dX7_fairest_79 hl (by decide) rfl (fun ls hl => ?_)
              have lp11 : ∀ (fu : Nat), ∀ (g1 : Nat), ∀ (w12 : Nat → va_E) (H : Heap) (locs : List Loc), ∀ (ls : Array Slot), Go 0 - g1 < fu → g1 ≤ Go 0 → (∀ j, j ≠ (y + 18) → w12 j = w j) → w12 y = .inr (7, [.int (iI 0), .ref (ad (y + 1)), .ref (ad (y + 2)), .ref (ad (y + 3)), .ref (ad (y + 4)), .ref (ad (y + 5)), .ref (ad (y + 6)), .ref (ad (y + 7)), .ref (ad (y + 8)), .ref (ad (y + 9)), .ref (ad (y + 10)), .ref (ad (y + 11)), .ref (ad (y + 12)), .ref (ad (y + 13)), .ref (ad (y + 14)), .ref (ad (y + 15)), .ref (ad (y + 16)), .ref (ad (y + 17)), .ref (ad (y + 18)), .ref (ad (y + 19)), .ref (ad (y + 20)), .ref (ad (y + 21)), .ref (ad (y + 22)), .ref (ad (y + 23)), .ref (ad (y + 24)), .ref (ad (y + 25)), .ref (ad (y + 26))]) → w12 (y + 3) = aI G 8 (fun q => (Ra q : Int)) → w12 (y + 5) = aI G 4 (fun q => (Go q : Int)) → w12 (y + 6) = aI G 56 (fun q => (Pr q : Int)) → w12 (y + 7) = aI G 56 (fun q => (Ti q : Int)) → w12 (y + 8) = aI G 4 (fun q => (St q : Int)) → w12 (y + 18) = aJ G 28 (oneF on0 (fun a9 c9 => gnV Pr Ti (Ra 0) (Ra 1) (St 0) a9 c9) (Go 0)) → va_P G.1 vwCl (nL N ad w12) H → va_S (nA N ad s.heap.size) s.heap H locs → lv_has ls 8 [(0, .ref (ad y)), (1, .int (iI ((fbW (fun x9 => (sumI (fun g9 => gnV Pr Ti (Ra 0) (Ra 1) (St 0) g9 (if bt ((x9 : Nat) : Int) g9 = 1 then 1 else 0)) (Go 0))) w1 : Nat) : Int))), (2, .long (jI (fnW (fun x9 => (sumI (fun g9 => gnV Pr Ti (Ra 0) (Ra 1) (St 0) g9 (if bt ((x9 : Nat) : Int) g9 = 1 then 1 else 0)) (Go 0))) w1))), (4, .int (iI ((w1 : Nat) : Int))), (5, .long (jI (sumI (fun g9 => gnV Pr Ti (Ra 0) (Ra 1) (St 0) g9 (if bt ((w1 : Nat) : Int) g9 = 1 then 1 else 0)) g1))), (7, .int (iI ((g1 : Nat) : Int)))] → W p l e ({ frames := 2, cells := 0, slots := 0, locals := 50 } : Room) s m ([.ref (ad y)] : List Value).toArray below meth cd H locs 0 0 Q (F0 m 81 ls []) := by
                intro fu
                induction fu with
                | zero =>
                  intro g1 w12 H locs ls hfu hg1 hfr f_y f_Ra f_Go f_Pr f_Ti f_St f_one hP hS hl
                  exact absurd hfu (Nat.not_lt_zero _)
                | succ fu ih13 =>
                  intro g1 w12 H locs ls hfu hg1 hfr f_y f_Ra f_Go f_Pr f_Ti f_St f_one hP hS hl
                  refine lv_iload hx hb dX7_fairest_81 (lv_at hl 5 rfl) ?_
                  refine lv_aload_n hx hb dX7_fairest_83 rfl (lv_at hl 0 rfl) ?_
                  refine n_get hx hb hts u_X7 hown hK hP (by omega) f_y rfl 5 (by decide) (nT_m wf_X7_22) rfl dX7_fairest_84 ?_
                  refine n_iconst hx hb dX7_fairest_87 ?_
                  refine n_iald hx hb hK hP 0 (by omega) f_Go (by omega) (by omega) (by decide) dX7_fairest_88 ?_
                  have ho14 := hGo 0 (by omega)
                  refine n_icmp_ge (tgt := 120) hx hb dX7_fairest_89 (by decide) (by omega) (by omega) (fun hc89 => ?_) (fun hc89 => ?_)
                  · skip
                    have hg9 : g1 = Go 0 := by omega
                    rw [hg9] at hl
                    have hsw := hSr w1
                    have hcm := cmpI_rng ((fun x9 => (sumI (fun g9 => gnV Pr Ti (Ra 0) (Ra 1) (St 0) g9 (if bt ((x9 : Nat) : Int) g9 = 1 then 1 else 0)) (Go 0))) w1) 0
                    have hsw : -28000000000000 ≤ (sumI (fun g9 => gnV Pr Ti (Ra 0) (Ra 1) (St 0) g9 (if bt ((w1 : Nat) : Int) g9 = 1 then 1 else 0)) (Go 0)) ∧ (sumI (fun g9 => gnV Pr Ti (Ra 0) (Ra 1) (St 0) g9 (if bt ((w1 : Nat) : Int) g9 = 1 then 1 else 0)) (Go 0)) ≤ 28000000000000 := hsw
                    have hcm : -1 ≤ cmpI (sumI (fun g9 => gnV Pr Ti (Ra 0) (Ra 1) (St 0) g9 (if bt ((w1 : Nat) : Int) g9 = 1 then 1 else 0)) (Go 0)) 0 ∧ cmpI (sumI (fun g9 => gnV Pr Ti (Ra 0) (Ra 1) (St 0) g9 (if bt ((w1 : Nat) : Int) g9 = 1 then 1 else 0)) (Go 0)) 0 ≤ 1 := hcm
                    refine lv_lload hx hb dX7_fairest_120 (lv_at hl 4 rfl) ?_
                    refine n_lconst (z := 0) hx hb dX7_fairest_122 (by decide) ?_
                    refine n_lcmp hx hb dX7_fairest_123 (by omega) (by omega) ?_
                    refine n_if_ge (tgt := 133) hx hb dX7_fairest_124 (by decide) (by omega) (fun hc124 => ?_) (fun hc124 => ?_)
                    · skip
                      have hs0 : ¬ (sumI (fun g9 => gnV Pr Ti (Ra 0) (Ra 1) (St 0) g9 (if bt ((w1 : Nat) : Int) g9 = 1 then 1 else 0)) (Go 0)) < 0 := fun h9 => absurd (cmpI_lt.mpr h9) (by omega)
                      refine lv_lload hx hb dX7_fairest_133 (lv_at hl 4 rfl) ?_
                      refine lv_lstore (lv' := [(5, .long (jI (max (sumI (fun g9 => gnV Pr Ti (Ra 0) (Ra 1) (St 0) g9 (if bt ((w1 : Nat) : Int) g9 = 1 then 1 else 0)) (Go 0)) (-(sumI (fun g9 => gnV Pr Ti (Ra 0) (Ra 1) (St 0) g9 (if bt ((w1 : Nat) : Int) g9 = 1 then 1 else 0)) (Go 0)))))), (0, .ref (ad y)), (1, .int (iI ((fbW (fun x9 => (sumI (fun g9 => gnV Pr Ti (Ra 0) (Ra 1) (St 0) g9 (if bt ((x9 : Nat) : Int) g9 = 1 then 1 else 0)) (Go 0))) w1 : Nat) : Int))), (2, .long (jI (fnW (fun x9 => (sumI (fun g9 => gnV Pr Ti (Ra 0) (Ra 1) (St 0) g9 (if bt ((x9 : Nat) : Int) g9 = 1 then 1 else 0)) (Go 0))) w1))), (4, .int (iI ((w1 : Nat) : Int))), (7, .int (iI ((Go 0 : Nat) : Int)))]) hx hb dX7_fairest_135 hl (by decide) (lc_j (by omega) rfl) (fun ls hl => ?_)
                      refine lv_lload_n hx hb dX7_fairest_137 rfl (lv_at hl 3 rfl) ?_
                      refine n_lconst (z := 0) hx hb dX7_fairest_138 (by decide) ?_
                      have hcm2 := cmpI_rng (fnW (fun x9 => (sumI (fun g9 => gnV Pr Ti (Ra 0) (Ra 1) (St 0) g9 (if bt ((x9 : Nat) : Int) g9 = 1 then 1 else 0)) (Go 0))) w1) 0
                      refine n_lcmp hx hb dX7_fairest_139 (by omega) (by omega) ?_
                      refine n_if_lt (tgt := 150) hx hb dX7_fairest_140 (by decide) (by omega) (fun hc140 => ?_) (fun hc140 => ?_)
                      · skip
                        refine lv_lload hx hb dX7_fairest_150 (lv_at hl 0 rfl) ?_
                        refine lv_lstore_n (lv' := [(2, .long (jI (max (sumI (fun g9 => gnV Pr Ti (Ra 0) (Ra 1) (St 0) g9 (if bt ((w1 : Nat) : Int) g9 = 1 then 1 else 0)) (Go 0)) (-(sumI (fun g9 => gnV Pr Ti (Ra 0) (Ra 1) (St 0) g9 (if bt ((w1 : Nat) : Int) g9 = 1 then 1 else 0)) (Go 0)))))), (5, .long (jI (max (sumI (fun g9 => gnV Pr Ti (Ra 0) (Ra 1) (St 0) g9 (if bt ((w1 : Nat) : Int) g9 = 1 then 1 else 0)) (Go 0)) (-(sumI (fun g9 => gnV Pr Ti (Ra 0) (Ra 1) (St 0) g9 (if bt ((w1 : Nat) : Int) g9 = 1 then 1 else 0)) (Go 0)))))), (0, .ref (ad y)), (1, .int (iI ((fbW (fun x9 => (sumI (fun g9 => gnV Pr Ti (Ra 0) (Ra 1) (St 0) g9 (if bt ((x9 : Nat) : Int) g9 = 1 then 1 else 0)) (Go 0))) w1 : Nat) : Int))), (4, .int (iI ((w1 : Nat) : Int))), (7, .int (iI ((Go 0 : Nat) : Int)))]) hx hb dX7_fairest_152 rfl hl (by decide) rfl (fun ls hl => ?_)
                        refine lv_iload hx hb dX7_fairest_153 (lv_at hl 4 rfl) ?_
                        refine lv_istore_n (lv' := [(1, .int (iI ((w1 : Nat) : Int))), (2, .long (jI (max (sumI (fun g9 => gnV Pr Ti (Ra 0) (Ra 1) (St 0) g9 (if bt ((w1 : Nat) : Int) g9 = 1 then 1 else 0)) (Go 0)) (-(sumI (fun g9 => gnV Pr Ti (Ra 0) (Ra 1) (St 0) g9 (if bt ((w1 : Nat) : Int) g9 = 1 then 1 else 0)) (Go 0)))))), (5, .long (jI (max (sumI (fun g9 => gnV Pr Ti (Ra 0) (Ra 1) (St 0) g9 (if bt ((w1 : Nat) : Int) g9 = 1 then 1 else 0)) (Go 0)) (-(sumI (fun g9 => gnV Pr Ti (Ra 0) (Ra 1) (St 0) g9 (if bt ((w1 : Nat) : Int) g9 = 1 then 1 else 0)) (Go 0)))))), (0, .ref (ad y)), (4, .int (iI ((w1 : Nat) : Int))), (7, .int (iI ((Go 0 : Nat) : Int)))]) hx hb dX7_fairest_155 rfl hl (by decide) rfl (fun ls hl => ?_)
                        refine lv_iinc (v := iI (((w1 : Nat) : Int) + 1)) (lv' := [(4, .int (iI (((w1 : Nat) : Int) + 1))), (1, .int (iI ((w1 : Nat) : Int))), (2, .long (jI (max (sumI (fun g9 => gnV Pr Ti (Ra 0) (Ra 1) (St 0) g9 (if bt ((w1 : Nat) : Int) g9 = 1 then 1 else 0)) (Go 0)) (-(sumI (fun g9 => gnV Pr Ti (Ra 0) (Ra 1) (St 0) g9 (if bt ((w1 : Nat) : Int) g9 = 1 then 1 else 0)) (Go 0)))))), (5, .long (jI (max (sumI (fun g9 => gnV Pr Ti (Ra 0) (Ra 1) (St 0) g9 (if bt ((w1 : Nat) : Int) g9 = 1 then 1 else 0)) (Go 0)) (-(sumI (fun g9 => gnV Pr Ti (Ra 0) (Ra 1) (St 0) g9 (if bt ((w1 : Nat) : Int) g9 = 1 then 1 else 0)) (Go 0)))))), (0, .ref (ad y)), (7, .int (iI ((Go 0 : Nat) : Int)))]) hx hb dX7_fairest_156 hl (k := 4) rfl (by first | exact iI_add _ _ | exact (iI_add _ _).trans (congrArg iI (by omega))) (by decide) rfl (fun ls hl => ?_)
                        refine lv_goto (tgt := 62) hx hb dX7_fairest_159 (by decide) ?_
                        have hyy := fW_y (S := (fun x9 => (sumI (fun g9 => gnV Pr Ti (Ra 0) (Ra 1) (St 0) g9 (if bt ((x9 : Nat) : Int) g9 = 1 then 1 else 0)) (Go 0)))) (v := w1) (Or.inl (cmpI_lt.mp hc140))
                        exact ih9 (w1 + 1) _ _ _ _ (by omega) (by omega) hfr f_y f_Ra f_Go f_Pr f_Ti f_St f_one hP hS (by first | exact lv_sub hl [4, 1, 2, 0] rfl | exact lv_cast (lv_sub (l' := [(0, .ref (ad y)), (1, .int (iI ((w1 : Nat) : Int))), (2, .long (jI (max (sumI (fun g9 => gnV Pr Ti (Ra 0) (Ra 1) (St 0) g9 (if bt ((w1 : Nat) : Int) g9 = 1 then 1 else 0)) (Go 0)) (-(sumI (fun g9 => gnV Pr Ti (Ra 0) (Ra 1) (St 0) g9 (if bt ((w1 : Nat) : Int) g9 = 1 then 1 else 0)) (Go 0)))))), (4, .int (iI (((w1 : Nat) : Int) + 1)))]) hl [4, 1, 2, 0] rfl) (lc_s (lc_i (show (((w1 : Nat) : Int) : Int) = ((fbW (fun x9 => (sumI (fun g9 => gnV Pr Ti (Ra 0) (Ra 1) (St 0) g9 (if bt ((x9 : Nat) : Int) g9 = 1 then 1 else 0)) (Go 0))) (w1 + 1) : Nat) : Int) by rw [hyy.2]) (lc_j (show ((max (sumI (fun g9 => gnV Pr Ti (Ra 0) (Ra 1) (St 0) g9 (if bt ((w1 : Nat) : Int) g9 = 1 then 1 else 0)) (Go 0)) (-(sumI (fun g9 => gnV Pr Ti (Ra 0) (Ra 1) (St 0) g9 (if bt ((w1 : Nat) : Int) g9 = 1 then 1 else 0)) (Go 0)))) : Int) = fnW (fun x9 => (sumI (fun g9 => gnV Pr Ti (Ra 0) (Ra 1) (St 0) g9 (if bt ((x9 : Nat) : Int) g9 = 1 then 1 else 0)) (Go 0))) (w1 + 1) by exact hyy.1.symm) (lc_i (show ((((w1 : Nat) : Int) + 1) : Int) = (((w1 + 1) : Nat) : Int) by omega) rfl)))))
                      · skip
                        refine lv_lload hx hb dX7_fairest_143 (lv_at hl 0 rfl) ?_
                        refine lv_lload_n hx hb dX7_fairest_145 rfl (lv_at hl 3 rfl) ?_
                        have hcm3 := cmpI_rng (max (sumI (fun g9 => gnV Pr Ti (Ra 0) (Ra 1) (St 0) g9 (if bt ((w1 : Nat) : Int) g9 = 1 then 1 else 0)) (Go 0)) (-(sumI (fun g9 => gnV Pr Ti (Ra 0) (Ra 1) (St 0) g9 (if bt ((w1 : Nat) : Int) g9 = 1 then 1 else 0)) (Go 0)))) (fnW (fun x9 => (sumI (fun g9 => gnV Pr Ti (Ra 0) (Ra 1) (St 0) g9 (if bt ((x9 : Nat) : Int) g9 = 1 then 1 else 0)) (Go 0))) w1)
                        refine n_lcmp hx hb dX7_fairest_146 (by omega) (by omega) ?_
                        refine n_if_ge (tgt := 156) hx hb dX7_fairest_147 (by decide) (by omega) (fun hc147 => ?_) (fun hc147 => ?_)
                        · skip
                          refine lv_iinc (v := iI (((w1 : Nat) : Int) + 1)) (lv' := [(4, .int (iI (((w1 : Nat) : Int) + 1))), (5, .long (jI (max (sumI (fun g9 => gnV Pr Ti (Ra 0) (Ra 1) (St 0) g9 (if bt ((w1 : Nat) : Int) g9 = 1 then 1 else 0)) (Go 0)) (-(sumI (fun g9 => gnV Pr Ti (Ra 0) (Ra 1) (St 0) g9 (if bt ((w1 : Nat) : Int) g9 = 1 then 1 else 0)) (Go 0)))))), (0, .ref (ad y)), (1, .int (iI ((fbW (fun x9 => (sumI (fun g9 => gnV Pr Ti (Ra 0) (Ra 1) (St 0) g9 (if bt ((x9 : Nat) : Int) g9 = 1 then 1 else 0)) (Go 0))) w1 : Nat) : Int))), (2, .long (jI (fnW (fun x9 => (sumI (fun g9 => gnV Pr Ti (Ra 0) (Ra 1) (St 0) g9 (if bt ((x9 : Nat) : Int) g9 = 1 then 1 else 0)) (Go 0))) w1))), (7, .int (iI ((Go 0 : Nat) : Int)))]) hx hb dX7_fairest_156 hl (k := 4) rfl (by first | exact iI_add _ _ | exact (iI_add _ _).trans (congrArg iI (by omega))) (by decide) rfl (fun ls hl => ?_)
                          refine lv_goto (tgt := 62) hx hb dX7_fairest_159 (by decide) ?_
                          have hyy := fW_n (S := (fun x9 => (sumI (fun g9 => gnV Pr Ti (Ra 0) (Ra 1) (St 0) g9 (if bt ((x9 : Nat) : Int) g9 = 1 then 1 else 0)) (Go 0)))) (v := w1) (fun h9 => h9.elim (fun h8 => absurd (cmpI_lt.mpr h8) (by omega)) (fun h8 => absurd (show cmpI (max (sumI (fun g9 => gnV Pr Ti (Ra 0) (Ra 1) (St 0) g9 (if bt ((w1 : Nat) : Int) g9 = 1 then 1 else 0)) (Go 0)) (-(sumI (fun g9 => gnV Pr Ti (Ra 0) (Ra 1) (St 0) g9 (if bt ((w1 : Nat) : Int) g9 = 1 then 1 else 0)) (Go 0)))) (fnW (fun x9 => (sumI (fun g9 => gnV Pr Ti (Ra 0) (Ra 1) (St 0) g9 (if bt ((x9 : Nat) : Int) g9 = 1 then 1 else 0)) (Go 0))) w1) < 0 from cmpI_lt.mpr h8) (by omega)))
                          exact ih9 (w1 + 1) _ _ _ _ (by omega) (by omega) hfr f_y f_Ra f_Go f_Pr f_Ti f_St f_one hP hS (by first | exact lv_sub hl [2, 3, 4, 0] rfl | exact lv_cast (lv_sub (l' := [(0, .ref (ad y)), (1, .int (iI ((fbW (fun x9 => (sumI (fun g9 => gnV Pr Ti (Ra 0) (Ra 1) (St 0) g9 (if bt ((x9 : Nat) : Int) g9 = 1 then 1 else 0)) (Go 0))) w1 : Nat) : Int))), (2, .long (jI (fnW (fun x9 => (sumI (fun g9 => gnV Pr Ti (Ra 0) (Ra 1) (St 0) g9 (if bt ((x9 : Nat) : Int) g9 = 1 then 1 else 0)) (Go 0))) w1))), (4, .int (iI (((w1 : Nat) : Int) + 1)))]) hl [2, 3, 4, 0] rfl) (lc_s (lc_i (show (((fbW (fun x9 => (sumI (fun g9 => gnV Pr Ti (Ra 0) (Ra 1) (St 0) g9 (if bt ((x9 : Nat) : Int) g9 = 1 then 1 else 0)) (Go 0))) w1 : Nat) : Int) : Int) = ((fbW (fun x9 => (sumI (fun g9 => gnV Pr Ti (Ra 0) (Ra 1) (St 0) g9 (if bt ((x9 : Nat) : Int) g9 = 1 then 1 else 0)) (Go 0))) (w1 + 1) : Nat) : Int) by rw [hyy.2]) (lc_j (show (fnW (fun x9 => (sumI (fun g9 => gnV Pr Ti (Ra 0) (Ra 1) (St 0) g9 (if bt ((x9 : Nat) : Int) g9 = 1 then 1 else 0)) (Go 0))) w1 : Int) = fnW (fun x9 => (sumI (fun g9 => gnV Pr Ti (Ra 0) (Ra 1) (St 0) g9 (if bt ((x9 : Nat) : Int) g9 = 1 then 1 else 0)) (Go 0))) (w1 + 1) by exact hyy.1.symm) (lc_i (show ((((w1 : Nat) : Int) + 1) : Int) = (((w1 + 1) : Nat) : Int) by omega) rfl)))))
                        · skip
                          refine lv_lload hx hb dX7_fairest_150 (lv_at hl 0 rfl) ?_
                          refine lv_lstore_n (lv' := [(2, .long (jI (max (sumI (fun g9 => gnV Pr Ti (Ra 0) (Ra 1) (St 0) g9 (if bt ((w1 : Nat) : Int) g9 = 1 then 1 else 0)) (Go 0)) (-(sumI (fun g9 => gnV Pr Ti (Ra 0) (Ra 1) (St 0) g9 (if bt ((w1 : Nat) : Int) g9 = 1 then 1 else 0)) (Go 0)))))), (5, .long (jI (max (sumI (fun g9 => gnV Pr Ti (Ra 0) (Ra 1) (St 0) g9 (if bt ((w1 : Nat) : Int) g9 = 1 then 1 else 0)) (Go 0)) (-(sumI (fun g9 => gnV Pr Ti (Ra 0) (Ra 1) (St 0) g9 (if bt ((w1 : Nat) : Int) g9 = 1 then 1 else 0)) (Go 0)))))), (0, .ref (ad y)), (1, .int (iI ((fbW (fun x9 => (sumI (fun g9 => gnV Pr Ti (Ra 0) (Ra 1) (St 0) g9 (if bt ((x9 : Nat) : Int) g9 = 1 then 1 else 0)) (Go 0))) w1 : Nat) : Int))), (4, .int (iI ((w1 : Nat) : Int))), (7, .int (iI ((Go 0 : Nat) : Int)))]) hx hb dX7_fairest_152 rfl hl (by decide) rfl (fun ls hl => ?_)
                          refine lv_iload hx hb dX7_fairest_153 (lv_at hl 4 rfl) ?_
                          refine lv_istore_n (lv' := [(1, .int (iI ((w1 : Nat) : Int))), (2, .long (jI (max (sumI (fun g9 => gnV Pr Ti (Ra 0) (Ra 1) (St 0) g9 (if bt ((w1 : Nat) : Int) g9 = 1 then 1 else 0)) (Go 0)) (-(sumI (fun g9 => gnV Pr Ti (Ra 0) (Ra 1) (St 0) g9 (if bt ((w1 : Nat) : Int) g9 = 1 then 1 else 0)) (Go 0)))))), (5, .long (jI (max (sumI (fun g9 => gnV Pr Ti (Ra 0) (Ra 1) (St 0) g9 (if bt ((w1 : Nat) : Int) g9 = 1 then 1 else 0)) (Go 0)) (-(sumI (fun g9 => gnV Pr Ti (Ra 0) (Ra 1) (St 0) g9 (if bt ((w1 : Nat) : Int) g9 = 1 then 1 else 0)) (Go 0)))))), (0, .ref (ad y)), (4, .int (iI ((w1 : Nat) : Int))), (7, .int (iI ((Go 0 : Nat) : Int)))]) hx hb dX7_fairest_155 rfl hl (by decide) rfl (fun ls hl => ?_)
                          refine lv_iinc (v := iI (((w1 : Nat) : Int) + 1)) (lv' := [(4, .int (iI (((w1 : Nat) : Int) + 1))), (1, .int (iI ((w1 : Nat) : Int))), (2, .long (jI (max (sumI (fun g9 => gnV Pr Ti (Ra 0) (Ra 1) (St 0) g9 (if bt ((w1 : Nat) : Int) g9 = 1 then 1 else 0)) (Go 0)) (-(sumI (fun g9 => gnV Pr Ti (Ra 0) (Ra 1) (St 0) g9 (if bt ((w1 : Nat) : Int) g9 = 1 then 1 else 0)) (Go 0)))))), (5, .long (jI (max (sumI (fun g9 => gnV Pr Ti (Ra 0) (Ra 1) (St 0) g9 (if bt ((w1 : Nat) : Int) g9 = 1 then 1 else 0)) (Go 0)) (-(sumI (fun g9 => gnV Pr Ti (Ra 0) (Ra 1) (St 0) g9 (if bt ((w1 : Nat) : Int) g9 = 1 then 1 else 0)) (Go 0)))))), (0, .ref (ad y)), (7, .int (iI ((Go 0 : Nat) : Int)))]) hx hb dX7_fairest_156 hl (k := 4) rfl (by first | exact iI_add _ _ | exact (iI_add _ _).trans (congrArg iI (by omega))) (by decide) rfl (fun ls hl => ?_)
                          refine lv_goto (tgt := 62) hx hb dX7_fairest_159 (by decide) ?_
                          have hyy := fW_y (S := (fun x9 => (sumI (fun g9 => gnV Pr Ti (Ra 0) (Ra 1) (St 0) g9 (if bt ((x9 : Nat) : Int) g9 = 1 then 1 else 0)) (Go 0)))) (v := w1) (Or.inr (cmpI_lt.mp hc147))
                          exact ih9 (w1 + 1) _ _ _ _ (by omega) (by omega) hfr f_y f_Ra f_Go f_Pr f_Ti f_St f_one hP hS (by first | exact lv_sub hl [4, 1, 2, 0] rfl | exact lv_cast (lv_sub (l' := [(0, .ref (ad y)), (1, .int (iI ((w1 : Nat) : Int))), (2, .long (jI (max (sumI (fun g9 => gnV Pr Ti (Ra 0) (Ra 1) (St 0) g9 (if bt ((w1 : Nat) : Int) g9 = 1 then 1 else 0)) (Go 0)) (-(sumI (fun g9 => gnV Pr Ti (Ra 0) (Ra 1) (St 0) g9 (if bt ((w1 : Nat) : Int) g9 = 1 then 1 else 0)) (Go 0)))))), (4, .int (iI (((w1 : Nat) : Int) + 1)))]) hl [4, 1, 2, 0] rfl) (lc_s (lc_i (show (((w1 : Nat) : Int) : Int) = ((fbW (fun x9 => (sumI (fun g9 => gnV Pr Ti (Ra 0) (Ra 1) (St 0) g9 (if bt ((x9 : Nat) : Int) g9 = 1 then 1 else 0)) (Go 0))) (w1 + 1) : Nat) : Int) by rw [hyy.2]) (lc_j (show ((max (sumI (fun g9 => gnV Pr Ti (Ra 0) (Ra 1) (St 0) g9 (if bt ((w1 : Nat) : Int) g9 = 1 then 1 else 0)) (Go 0)) (-(sumI (fun g9 => gnV Pr Ti (Ra 0) (Ra 1) (St 0) g9 (if bt ((w1 : Nat) : Int) g9 = 1 then 1 else 0)) (Go 0)))) : Int) = fnW (fun x9 => (sumI (fun g9 => gnV Pr Ti (Ra 0) (Ra 1) (St 0) g9 (if bt ((x9 : Nat) : Int) g9 = 1 then 1 else 0)) (Go 0))) (w1 + 1) by exact hyy.1.symm) (lc_i (show ((((w1 : Nat) : Int) + 1) : Int) = (((w1 + 1) : Nat) : Int) by omega) rfl)))))
                    · skip
                      have hs0 : (sumI (fun g9 => gnV Pr Ti (Ra 0) (Ra 1) (St 0) g9 (if bt ((w1 : Nat) : Int) g9 = 1 then 1 else 0)) (Go 0)) < 0 := cmpI_lt.mp hc124
                      refine lv_lload hx hb dX7_fairest_127 (lv_at hl 4 rfl) ?_
                      refine n_lneg hx hb dX7_fairest_129 ?_
                      refine lv_goto (tgt := 135) hx hb dX7_fairest_130 (by decide) ?_
                      refine lv_lstore (lv' := [(5, .long (jI (max (sumI (fun g9 => gnV Pr Ti (Ra 0) (Ra 1) (St 0) g9 (if bt ((w1 : Nat) : Int) g9 = 1 then 1 else 0)) (Go 0)) (-(sumI (fun g9 => gnV Pr Ti (Ra 0) (Ra 1) (St 0) g9 (if bt ((w1 : Nat) : Int) g9 = 1 then 1 else 0)) (Go 0)))))), (0, .ref (ad y)), (1, .int (iI ((fbW (fun x9 => (sumI (fun g9 => gnV Pr Ti (Ra 0) (Ra 1) (St 0) g9 (if bt ((x9 : Nat) : Int) g9 = 1 then 1 else 0)) (Go 0))) w1 : Nat) : Int))), (2, .long (jI (fnW (fun x9 => (sumI (fun g9 => gnV Pr Ti (Ra 0) (Ra 1) (St 0) g9 (if bt ((x9 : Nat) : Int) g9 = 1 then 1 else 0)) (Go 0))) w1))), (4, .int (iI ((w1 : Nat) : Int))), (7, .int (iI ((Go 0 : Nat) : Int)))]) hx hb dX7_fairest_135 hl (by decide) (lc_j (by omega) rfl) (fun ls hl => ?_)
                      refine lv_lload_n hx hb dX7_fairest_137 rfl (lv_at hl 3 rfl) ?_
                      refine n_lconst (z := 0) hx hb dX7_fairest_138 (by decide) ?_
                      have hcm2 := cmpI_rng (fnW (fun x9 => (sumI (fun g9 => gnV Pr Ti (Ra 0) (Ra 1) (St 0) g9 (if bt ((x9 : Nat) : Int) g9 = 1 then 1 else 0)) (Go 0))) w1) 0
                      refine n_lcmp hx hb dX7_fairest_139 (by omega) (by omega) ?_
                      refine n_if_lt (tgt := 150) hx hb dX7_fairest_140 (by decide) (by omega) (fun hc140 => ?_) (fun hc140 => ?_)
                      · skip
                        refine lv_lload hx hb dX7_fairest_150 (lv_at hl 0 rfl) ?_
                        refine lv_lstore_n (lv' := [(2, .long (jI (max (sumI (fun g9 => gnV Pr Ti (Ra 0) (Ra 1) (St 0) g9 (if bt ((w1 : Nat) : Int) g9 = 1 then 1 else 0)) (Go 0)) (-(sumI (fun g9 => gnV Pr Ti (Ra 0) (Ra 1) (St 0) g9 (if bt ((w1 : Nat) : Int) g9 = 1 then 1 else 0)) (Go 0)))))), (5, .long (jI (max (sumI (fun g9 => gnV Pr Ti (Ra 0) (Ra 1) (St 0) g9 (if bt ((w1 : Nat) : Int) g9 = 1 then 1 else 0)) (Go 0)) (-(sumI (fun g9 => gnV Pr Ti (Ra 0) (Ra 1) (St 0) g9 (if bt ((w1 : Nat) : Int) g9 = 1 then 1 else 0)) (Go 0)))))), (0, .ref (ad y)), (1, .int (iI ((fbW (fun x9 => (sumI (fun g9 => gnV Pr Ti (Ra 0) (Ra 1) (St 0) g9 (if bt ((x9 : Nat) : Int) g9 = 1 then 1 else 0)) (Go 0))) w1 : Nat) : Int))), (4, .int (iI ((w1 : Nat) : Int))), (7, .int (iI ((Go 0 : Nat) : Int)))]) hx hb dX7_fairest_152 rfl hl (by decide) rfl (fun ls hl => ?_)
                        refine lv_iload hx hb dX7_fairest_153 (lv_at hl 4 rfl) ?_
                        refine lv_istore_n (lv' := [(1, .int (iI ((w1 : Nat) : Int))), (2, .long (jI (max (sumI (fun g9 => gnV Pr Ti (Ra 0) (Ra 1) (St 0) g9 (if bt ((w1 : Nat) : Int) g9 = 1 then 1 else 0)) (Go 0)) (-(sumI (fun g9 => gnV Pr Ti (Ra 0) (Ra 1) (St 0) g9 (if bt ((w1 : Nat) : Int) g9 = 1 then 1 else 0)) (Go 0)))))), (5, .long (jI (max (sumI (fun g9 => gnV Pr Ti (Ra 0) (Ra 1) (St 0) g9 (if bt ((w1 : Nat) : Int) g9 = 1 then 1 else 0)) (Go 0)) (-(sumI (fun g9 => gnV Pr Ti (Ra 0) (Ra 1) (St 0) g9 (if bt ((w1 : Nat) : Int) g9 = 1 then 1 else 0)) (Go 0)))))), (0, .ref (ad y)), (4, .int (iI ((w1 : Nat) : Int))), (7, .int (iI ((Go 0 : Nat) : Int)))]) hx hb dX7_fairest_155 rfl hl (by decide) rfl (fun ls hl => ?_)
                        refine lv_iinc (v := iI (((w1 : Nat) : Int) + 1)) (lv' := [(4, .int (iI (((w1 : Nat) : Int) + 1))), (1, .int (iI ((w1 : Nat) : Int))), (2, .long (jI (max (sumI (fun g9 => gnV Pr Ti (Ra 0) (Ra 1) (St 0) g9 (if bt ((w1 : Nat) : Int) g9 = 1 then 1 else 0)) (Go 0)) (-(sumI (fun g9 => gnV Pr Ti (Ra 0) (Ra 1) (St 0) g9 (if bt ((w1 : Nat) : Int) g9 = 1 then 1 else 0)) (Go 0)))))), (5, .long (jI (max (sumI (fun g9 => gnV Pr Ti (Ra 0) (Ra 1) (St 0) g9 (if bt ((w1 : Nat) : Int) g9 = 1 then 1 else 0)) (Go 0)) (-(sumI (fun g9 => gnV Pr Ti (Ra 0) (Ra 1) (St 0) g9 (if bt ((w1 : Nat) : Int) g9 = 1 then 1 else 0)) (Go 0)))))), (0, .ref (ad y)), (7, .int (iI ((Go 0 : Nat) : Int)))]) hx hb dX7_fairest_156 hl (k := 4) rfl (by first | exact iI_add _ _ | exact (iI_add _ _).trans (congrArg iI (by omega))) (by decide) rfl (fun ls hl => ?_)
                        refine lv_goto (tgt := 62) hx hb dX7_fairest_159 (by decide) ?_
                        have hyy := fW_y (S := (fun x9 => (sumI (fun g9 => gnV Pr Ti (Ra 0) (Ra 1) (St 0) g9 (if bt ((x9 : Nat) : Int) g9 = 1 then 1 else 0)) (Go 0)))) (v := w1) (Or.inl (cmpI_lt.mp hc140))
                        exact ih9 (w1 + 1) _ _ _ _ (by omega) (by omega) hfr f_y f_Ra f_Go f_Pr f_Ti f_St f_one hP hS (by first | exact lv_sub hl [4, 1, 2, 0] rfl | exact lv_cast (lv_sub (l' := [(0, .ref (ad y)), (1, .int (iI ((w1 : Nat) : Int))), (2, .long (jI (max (sumI (fun g9 => gnV Pr Ti (Ra 0) (Ra 1) (St 0) g9 (if bt ((w1 : Nat) : Int) g9 = 1 then 1 else 0)) (Go 0)) (-(sumI (fun g9 => gnV Pr Ti (Ra 0) (Ra 1) (St 0) g9 (if bt ((w1 : Nat) : Int) g9 = 1 then 1 else 0)) (Go 0)))))), (4, .int (iI (((w1 : Nat) : Int) + 1)))]) hl [4, 1, 2, 0] rfl) (lc_s (lc_i (show (((w1 : Nat) : Int) : Int) = ((fbW (fun x9 => (sumI (fun g9 => gnV Pr Ti (Ra 0) (Ra 1) (St 0) g9 (if bt ((x9 : Nat) : Int) g9 = 1 then 1 else 0)) (Go 0))) (w1 + 1) : Nat) : Int) by rw [hyy.2]) (lc_j (show ((max (sumI (fun g9 => gnV Pr Ti (Ra 0) (Ra 1) (St 0) g9 (if bt ((w1 : Nat) : Int) g9 = 1 then 1 else 0)) (Go 0)) (-(sumI (fun g9 => gnV Pr Ti (Ra 0) (Ra 1) (St 0) g9 (if bt ((w1 : Nat) : Int) g9 = 1 then 1 else 0)) (Go 0)))) : Int) = fnW (fun x9 => (sumI (fun g9 => gnV Pr Ti (Ra 0) (Ra 1) (St 0) g9 (if bt ((x9 : Nat) : Int) g9 = 1 then 1 else 0)) (Go 0))) (w1 + 1) by exact hyy.1.symm) (lc_i (show ((((w1 : Nat) : Int) + 1) : Int) = (((w1 + 1) : Nat) : Int) by omega) rfl)))))
                      · skip
                        refine lv_lload hx hb dX7_fairest_143 (lv_at hl 0 rfl) ?_
                        refine lv_lload_n hx hb dX7_fairest_145 rfl (lv_at hl 3 rfl) ?_
                        have hcm3 := cmpI_rng (max (sumI (fun g9 => gnV Pr Ti (Ra 0) (Ra 1) (St 0) g9 (if bt ((w1 : Nat) : Int) g9 = 1 then 1 else 0)) (Go 0)) (-(sumI (fun g9 => gnV Pr Ti (Ra 0) (Ra 1) (St 0) g9 (if bt ((w1 : Nat) : Int) g9 = 1 then 1 else 0)) (Go 0)))) (fnW (fun x9 => (sumI (fun g9 => gnV Pr Ti (Ra 0) (Ra 1) (St 0) g9 (if bt ((x9 : Nat) : Int) g9 = 1 then 1 else 0)) (Go 0))) w1)
                        refine n_lcmp hx hb dX7_fairest_146 (by omega) (by omega) ?_
                        refine n_if_ge (tgt := 156) hx hb dX7_fairest_147 (by decide) (by omega) (fun hc147 => ?_) (fun hc147 => ?_)
                        · skip
                          refine lv_iinc (v := iI (((w1 : Nat) : Int) + 1)) (lv' := [(4, .int (iI (((w1 : Nat) : Int) + 1))), (5, .long (jI (max (sumI (fun g9 => gnV Pr Ti (Ra 0) (Ra 1) (St 0) g9 (if bt ((w1 : Nat) : Int) g9 = 1 then 1 else 0)) (Go 0)) (-(sumI (fun g9 => gnV Pr Ti (Ra 0) (Ra 1) (St 0) g9 (if bt ((w1 : Nat) : Int) g9 = 1 then 1 else 0)) (Go 0)))))), (0, .ref (ad y)), (1, .int (iI ((fbW (fun x9 => (sumI (fun g9 => gnV Pr Ti (Ra 0) (Ra 1) (St 0) g9 (if bt ((x9 : Nat) : Int) g9 = 1 then 1 else 0)) (Go 0))) w1 : Nat) : Int))), (2, .long (jI (fnW (fun x9 => (sumI (fun g9 => gnV Pr Ti (Ra 0) (Ra 1) (St 0) g9 (if bt ((x9 : Nat) : Int) g9 = 1 then 1 else 0)) (Go 0))) w1))), (7, .int (iI ((Go 0 : Nat) : Int)))]) hx hb dX7_fairest_156 hl (k := 4) rfl (by first | exact iI_add _ _ | exact (iI_add _ _).trans (congrArg iI (by omega))) (by decide) rfl (fun ls hl => ?_)
                          refine lv_goto (tgt := 62) hx hb dX7_fairest_159 (by decide) ?_
                          have hyy := fW_n (S := (fun x9 => (sumI (fun g9 => gnV Pr Ti (Ra 0) (Ra 1) (St 0) g9 (if bt ((x9 : Nat) : Int) g9 = 1 then 1 else 0)) (Go 0)))) (v := w1) (fun h9 => h9.elim (fun h8 => absurd (cmpI_lt.mpr h8) (by omega)) (fun h8 => absurd (show cmpI (max (sumI (fun g9 => gnV Pr Ti (Ra 0) (Ra 1) (St 0) g9 (if bt ((w1 : Nat) : Int) g9 = 1 then 1 else 0)) (Go 0)) (-(sumI (fun g9 => gnV Pr Ti (Ra 0) (Ra 1) (St 0) g9 (if bt ((w1 : Nat) : Int) g9 = 1 then 1 else 0)) (Go 0)))) (fnW (fun x9 => (sumI (fun g9 => gnV Pr Ti (Ra 0) (Ra 1) (St 0) g9 (if bt ((x9 : Nat) : Int) g9 = 1 then 1 else 0)) (Go 0))) w1) < 0 from cmpI_lt.mpr h8) (by omega)))
                          exact ih9 (w1 + 1) _ _ _ _ (by omega) (by omega) hfr f_y f_Ra f_Go f_Pr f_Ti f_St f_one hP hS (by first | exact lv_sub hl [2, 3, 4, 0] rfl | exact lv_cast (lv_sub (l' := [(0, .ref (ad y)), (1, .int (iI ((fbW (fun x9 => (sumI (fun g9 => gnV Pr Ti (Ra 0) (Ra 1) (St 0) g9 (if bt ((x9 : Nat) : Int) g9 = 1 then 1 else 0)) (Go 0))) w1 : Nat) : Int))), (2, .long (jI (fnW (fun x9 => (sumI (fun g9 => gnV Pr Ti (Ra 0) (Ra 1) (St 0) g9 (if bt ((x9 : Nat) : Int) g9 = 1 then 1 else 0)) (Go 0))) w1))), (4, .int (iI (((w1 : Nat) : Int) + 1)))]) hl [2, 3, 4, 0] rfl) (lc_s (lc_i (show (((fbW (fun x9 => (sumI (fun g9 => gnV Pr Ti (Ra 0) (Ra 1) (St 0) g9 (if bt ((x9 : Nat) : Int) g9 = 1 then 1 else 0)) (Go 0))) w1 : Nat) : Int) : Int) = ((fbW (fun x9 => (sumI (fun g9 => gnV Pr Ti (Ra 0) (Ra 1) (St 0) g9 (if bt ((x9 : Nat) : Int) g9 = 1 then 1 else 0)) (Go 0))) (w1 + 1) : Nat) : Int) by rw [hyy.2]) (lc_j (show (fnW (fun x9 => (sumI (fun g9 => gnV Pr Ti (Ra 0) (Ra 1) (St 0) g9 (if bt ((x9 : Nat) : Int) g9 = 1 then 1 else 0)) (Go 0))) w1 : Int) = fnW (fun x9 => (sumI (fun g9 => gnV Pr Ti (Ra 0) (Ra 1) (St 0) g9 (if bt ((x9 : Nat) : Int) g9 = 1 then 1 else 0)) (Go 0))) (w1 + 1) by exact hyy.1.symm) (lc_i (show ((((w1 : Nat) : Int) + 1) : Int) = (((w1 + 1) : Nat) : Int) by omega) rfl)))))
                        · skip
                          refine lv_lload hx hb dX7_fairest_150 (lv_at hl 0 rfl) ?_
                          refine lv_lstore_n (lv' := [(2, .long (jI (max (sumI (fun g9 => gnV Pr Ti (Ra 0) (Ra 1) (St 0) g9 (if bt ((w1 : Nat) : Int) g9 = 1 then 1 else 0)) (Go 0)) (-(sumI (fun g9 => gnV Pr Ti (Ra 0) (Ra 1) (St 0) g9 (if bt ((w1 : Nat) : Int) g9 = 1 then 1 else 0)) (Go 0)))))), (5, .long (jI (max (sumI (fun g9 => gnV Pr Ti (Ra 0) (Ra 1) (St 0) g9 (if bt ((w1 : Nat) : Int) g9 = 1 then 1 else 0)) (Go 0)) (-(sumI (fun g9 => gnV Pr Ti (Ra 0) (Ra 1) (St 0) g9 (if bt ((w1 : Nat) : Int) g9 = 1 then 1 else 0)) (Go 0)))))), (0, .ref (ad y)), (1, .int (iI ((fbW (fun x9 => (sumI (fun g9 => gnV Pr Ti (Ra 0) (Ra 1) (St 0) g9 (if bt ((x9 : Nat) : Int) g9 = 1 then 1 else 0)) (Go 0))) w1 : Nat) : Int))), (4, .int (iI ((w1 : Nat) : Int))), (7, .int (iI ((Go 0 : Nat) : Int)))]) hx hb dX7_fairest_152 rfl hl (by decide) rfl (fun ls hl => ?_)
                          refine lv_iload hx hb dX7_fairest_153 (lv_at hl 4 rfl) ?_
                          refine lv_istore_n (lv' := [(1, .int (iI ((w1 : Nat) : Int))), (2, .long (jI (max (sumI (fun g9 => gnV Pr Ti (Ra 0) (Ra 1) (St 0) g9 (if bt ((w1 : Nat) : Int) g9 = 1 then 1 else 0)) (Go 0)) (-(sumI (fun g9 => gnV Pr Ti (Ra 0) (Ra 1) (St 0) g9 (if bt ((w1 : Nat) : Int) g9 = 1 then 1 else 0)) (Go 0)))))), (5, .long (jI (max (sumI (fun g9 => gnV Pr Ti (Ra 0) (Ra 1) (St 0) g9 (if bt ((w1 : Nat) : Int) g9 = 1 then 1 else 0)) (Go 0)) (-(sumI (fun g9 => gnV Pr Ti (Ra 0) (Ra 1) (St 0) g9 (if bt ((w1 : Nat) : Int) g9 = 1 then 1 else 0)) (Go 0)))))), (0, .ref (ad y)), (4, .int (iI ((w1 : Nat) : Int))), (7, .int (iI ((Go 0 : Nat) : Int)))]) hx hb dX7_fairest_155 rfl hl (by decide) rfl (fun ls hl => ?_)
                          refine lv_iinc (v := iI (((w1 : Nat) : Int) + 1)) (lv' := [(4, .int (iI (((w1 : Nat) : Int) + 1))), (1, .int (iI ((w1 : Nat) : Int))), (2, .long (jI (max (sumI (fun g9 => gnV Pr Ti (Ra 0) (Ra 1) (St 0) g9 (if bt ((w1 : Nat) : Int) g9 = 1 then 1 else 0)) (Go 0)) (-(sumI (fun g9 => gnV Pr Ti (Ra 0) (Ra 1) (St 0) g9 (if bt ((w1 : Nat) : Int) g9 = 1 then 1 else 0)) (Go 0)))))), (5, .long (jI (max (sumI (fun g9 => gnV Pr Ti (Ra 0) (Ra 1) (St 0) g9 (if bt ((w1 : Nat) : Int) g9 = 1 then 1 else 0)) (Go 0)) (-(sumI (fun g9 => gnV Pr Ti (Ra 0) (Ra 1) (St 0) g9 (if bt ((w1 : Nat) : Int) g9 = 1 then 1 else 0)) (Go 0)))))), (0, .ref (ad y)), (7, .int (iI ((Go 0 : Nat) : Int)))]) hx hb dX7_fairest_156 hl (k := 4) rfl (by first | exact iI_add _ _ | exact (iI_add _ _).trans (congrArg iI (by omega))) (by decide) rfl (fun ls hl => ?_)
                          refine lv_goto (tgt := 62) hx hb dX7_fairest_159 (by decide) ?_
                          have hyy := fW_y (S := (fun x9 => (sumI (fun g9 => gnV Pr Ti (Ra 0) (Ra 1) (St 0) g9 (if bt ((x9 : Nat) : Int) g9 = 1 then 1 else 0)) (Go 0)))) (v := w1) (Or.inr (cmpI_lt.mp hc147))
                          exact ih9 (w1 + 1) _ _ _ _ (by omega) (by omega) hfr f_y f_Ra f_Go f_Pr f_Ti f_St f_one hP hS (by first | exact lv_sub hl [4, 1, 2, 0] rfl | exact lv_cast (lv_sub (l' := [(0, .ref (ad y)), (1, .int (iI ((w1 : Nat) : Int))), (2, .long (jI (max (sumI (fun g9 => gnV Pr Ti (Ra 0) (Ra 1) (St 0) g9 (if bt ((w1 : Nat) : Int) g9 = 1 then 1 else 0)) (Go 0)) (-(sumI (fun g9 => gnV Pr Ti (Ra 0) (Ra 1) (St 0) g9 (if bt ((w1 : Nat) : Int) g9 = 1 then 1 else 0)) (Go 0)))))), (4, .int (iI (((w1 : Nat) : Int) + 1)))]) hl [4, 1, 2, 0] rfl) (lc_s (lc_i (show (((w1 : Nat) : Int) : Int) = ((fbW (fun x9 => (sumI (fun g9 => gnV Pr Ti (Ra 0) (Ra 1) (St 0) g9 (if bt ((x9 : Nat) : Int) g9 = 1 then 1 else 0)) (Go 0))) (w1 + 1) : Nat) : Int) by rw [hyy.2]) (lc_j (show ((max (sumI (fun g9 => gnV Pr Ti (Ra 0) (Ra 1) (St 0) g9 (if bt ((w1 : Nat) : Int) g9 = 1 then 1 else 0)) (Go 0)) (-(sumI (fun g9 => gnV Pr Ti (Ra 0) (Ra 1) (St 0) g9 (if bt ((w1 : Nat) : Int) g9 = 1 then 1 else 0)) (Go 0)))) : Int) = fnW (fun x9 => (sumI (fun g9 => gnV Pr Ti (Ra 0) (Ra 1) (St 0) g9 (if bt ((x9 : Nat) : Int) g9 = 1 then 1 else 0)) (Go 0))) (w1 + 1) by exact hyy.1.symm) (lc_i (show ((((w1 : Nat) : Int) + 1) : Int) = (((w1 + 1) : Nat) : Int) by omega) rfl)))))
                  · skip
                    refine lv_lload hx hb dX7_fairest_92 (lv_at hl 4 rfl) ?_
                    refine lv_aload_n hx hb dX7_fairest_94 rfl (lv_at hl 0 rfl) ?_
                    refine n_get hx hb hts u_X7 hown hK hP (by omega) f_y rfl 18 (by decide) (nT_m wf_X7_62) rfl dX7_fairest_95 ?_
                    refine n_iconst hx hb dX7_fairest_98 ?_
                    refine lv_iload hx hb dX7_fairest_99 (lv_at hl 5 rfl) ?_
                    refine n_imul hx hb dX7_fairest_101 ?_
                    refine lv_iload hx hb dX7_fairest_102 (lv_at hl 3 rfl) ?_
                    refine lv_iload hx hb dX7_fairest_104 (lv_at hl 5 rfl) ?_
                    refine n_ishr hx hb g1 dX7_fairest_106 (by omega) (by omega) ?_
                    refine n_iconst hx hb dX7_fairest_107 ?_
                    refine n_bit hx hb g1 dX7_fairest_108 (by omega) (by omega) ?_
                    have hbt := bt_rng ((w1 : Nat) : Int) g1
                    rw [show bt ((w1 : Nat) : Int) g1 = (((if bt ((w1 : Nat) : Int) g1 = 1 then 1 else 0 : Nat) : Nat) : Int) by split <;> omega]
                    have hb9 : (if bt ((w1 : Nat) : Int) g1 = 1 then 1 else 0 : Nat) ≤ 1 := by split <;> omega
                    refine n_iadd hx hb dX7_fairest_109 ?_
                    refine n_lald hx hb hK hP ((2 * g1) + (if bt ((w1 : Nat) : Int) g1 = 1 then 1 else 0 : Nat)) (by omega) f_one (by omega) (by omega) (by decide) dX7_fairest_110 ?_
                    refine n_ladd hx hb dX7_fairest_111 ?_
                    refine lv_lstore (lv' := [(5, .long (jI ((sumI (fun g9 => gnV Pr Ti (Ra 0) (Ra 1) (St 0) g9 (if bt ((w1 : Nat) : Int) g9 = 1 then 1 else 0)) g1) + (oneF on0 (fun a9 c9 => gnV Pr Ti (Ra 0) (Ra 1) (St 0) a9 c9) (Go 0)) ((2 * g1) + (if bt ((w1 : Nat) : Int) g1 = 1 then 1 else 0 : Nat))))), (0, .ref (ad y)), (1, .int (iI ((fbW (fun x9 => (sumI (fun g9 => gnV Pr Ti (Ra 0) (Ra 1) (St 0) g9 (if bt ((x9 : Nat) : Int) g9 = 1 then 1 else 0)) (Go 0))) w1 : Nat) : Int))), (2, .long (jI (fnW (fun x9 => (sumI (fun g9 => gnV Pr Ti (Ra 0) (Ra 1) (St 0) g9 (if bt ((x9 : Nat) : Int) g9 = 1 then 1 else 0)) (Go 0))) w1))), (4, .int (iI ((w1 : Nat) : Int))), (7, .int (iI ((g1 : Nat) : Int)))]) hx hb dX7_fairest_112 hl (by decide) rfl (fun ls hl => ?_)
                    refine lv_iinc (v := iI (((g1 : Nat) : Int) + 1)) (lv' := [(7, .int (iI (((g1 : Nat) : Int) + 1))), (5, .long (jI ((sumI (fun g9 => gnV Pr Ti (Ra 0) (Ra 1) (St 0) g9 (if bt ((w1 : Nat) : Int) g9 = 1 then 1 else 0)) g1) + (oneF on0 (fun a9 c9 => gnV Pr Ti (Ra 0) (Ra 1) (St 0) a9 c9) (Go 0)) ((2 * g1) + (if bt ((w1 : Nat) : Int) g1 = 1 then 1 else 0 : Nat))))), (0, .ref (ad y)), (1, .int (iI ((fbW (fun x9 => (sumI (fun g9 => gnV Pr Ti (Ra 0) (Ra 1) (St 0) g9 (if bt ((x9 : Nat) : Int) g9 = 1 then 1 else 0)) (Go 0))) w1 : Nat) : Int))), (2, .long (jI (fnW (fun x9 => (sumI (fun g9 => gnV Pr Ti (Ra 0) (Ra 1) (St 0) g9 (if bt ((x9 : Nat) : Int) g9 = 1 then 1 else 0)) (Go 0))) w1))), (4, .int (iI ((w1 : Nat) : Int)))]) hx hb dX7_fairest_114 hl (k := 5) rfl (by first | exact iI_add _ _ | exact (iI_add _ _).trans (congrArg iI (by omega))) (by decide) rfl (fun ls hl => ?_)
                    refine lv_goto (tgt := 81) hx hb dX7_fairest_117 (by decide) ?_
                    exact ih13 (g1 + 1) _ _ _ _ (by omega) (by omega) hfr f_y f_Ra f_Go f_Pr f_Ti f_St f_one hP hS (by first | exact lv_sub hl [2, 3, 4, 5, 1, 0] rfl | exact lv_cast (lv_sub (l' := [(0, .ref (ad y)), (1, .int (iI ((fbW (fun x9 => (sumI (fun g9 => gnV Pr Ti (Ra 0) (Ra 1) (St 0) g9 (if bt ((x9 : Nat) : Int) g9 = 1 then 1 else 0)) (Go 0))) w1 : Nat) : Int))), (2, .long (jI (fnW (fun x9 => (sumI (fun g9 => gnV Pr Ti (Ra 0) (Ra 1) (St 0) g9 (if bt ((x9 : Nat) : Int) g9 = 1 then 1 else 0)) (Go 0))) w1))), (4, .int (iI ((w1 : Nat) : Int))), (5, .long (jI ((sumI (fun g9 => gnV Pr Ti (Ra 0) (Ra 1) (St 0) g9 (if bt ((w1 : Nat) : Int) g9 = 1 then 1 else 0)) g1) + (oneF on0 (fun a9 c9 => gnV Pr Ti (Ra 0) (Ra 1) (St 0) a9 c9) (Go 0)) ((2 * g1) + (if bt ((w1 : Nat) : Int) g1 = 1 then 1 else 0 : Nat))))), (7, .int (iI (((g1 : Nat) : Int) + 1)))]) hl [2, 3, 4, 5, 1, 0] rfl) (lc_s (lc_s (lc_s (lc_s (lc_j (show (((sumI (fun g9 => gnV Pr Ti (Ra 0) (Ra 1) (St 0) g9 (if bt ((w1 : Nat) : Int) g9 = 1 then 1 else 0)) g1) + (oneF on0 (fun a9 c9 => gnV Pr Ti (Ra 0) (Ra 1) (St 0) a9 c9) (Go 0)) ((2 * g1) + (if bt ((w1 : Nat) : Int) g1 = 1 then 1 else 0 : Nat))) : Int) = (sumI (fun g9 => gnV Pr Ti (Ra 0) (Ra 1) (St 0) g9 (if bt ((w1 : Nat) : Int) g9 = 1 then 1 else 0)) (g1 + 1)) by rw [oneF_at (by omega) (by split <;> omega)]; rfl) (lc_i (show ((((g1 : Nat) : Int) + 1) : Int) = (((g1 + 1) : Nat) : Int) by omega) rfl)))))))
              exact lp11 (Go 0 - 0 + 1) 0 _ _ _ _ (Nat.lt_succ_self _) (by omega) hfr f_y f_Ra f_Go f_Pr f_Ti f_St f_one hP hS (by first | exact lv_sub hl [2, 3, 4, 5, 1, 0] rfl | exact lv_cast (lv_sub (l' := [(0, .ref (ad y)), (1, .int (iI ((fbW (fun x9 => (sumI (fun g9 => gnV Pr Ti (Ra 0) (Ra 1) (St 0) g9 (if bt ((x9 : Nat) : Int) g9 = 1 then 1 else 0)) (Go 0))) w1 : Nat) : Int))), (2, .long (jI (fnW (fun x9 => (sumI (fun g9 => gnV Pr Ti (Ra 0) (Ra 1) (St 0) g9 (if bt ((x9 : Nat) : Int) g9 = 1 then 1 else 0)) (Go 0))) w1))), (4, .int (iI ((w1 : Nat) : Int))), (5, .long (jI 0)), (7, .int (iI 0))]) hl [2, 3, 4, 5, 1, 0] rfl) (lc_s (lc_s (lc_s (lc_s (lc_j (show (0 : Int) = (sumI (fun g9 => gnV Pr Ti (Ra 0) (Ra 1) (St 0) g9 (if bt ((w1 : Nat) : Int) g9 = 1 then 1 else 0)) 0) by rfl) (lc_i (show (0 : Int) = ((0 : Nat) : Int) by omega) rfl)))))))
        exact lp7 (2 ^ (Go 0) - 0 + 1) 0 _ _ _ _ (Nat.lt_succ_self _) (by omega) hfr f_y f_Ra f_Go f_Pr f_Ti f_St f_one hP hS (by first | exact lv_sub hl [3, 2, 1, 0] rfl | exact lv_cast (lv_sub (l' := [(0, .ref (ad y)), (1, .int (iI 0)), (2, .long (jI (-1))), (4, .int (iI 0))]) hl [3, 2, 1, 0] rfl) (lc_s (lc_i (show (0 : Int) = ((fbW (fun x9 => (sumI (fun g9 => gnV Pr Ti (Ra 0) (Ra 1) (St 0) g9 (if bt ((x9 : Nat) : Int) g9 = 1 then 1 else 0)) (Go 0))) 0 : Nat) : Int) by rfl) (lc_j (show (-1 : Int) = fnW (fun x9 => (sumI (fun g9 => gnV Pr Ti (Ra 0) (Ra 1) (St 0) g9 (if bt ((x9 : Nat) : Int) g9 = 1 then 1 else 0)) (Go 0))) 0 by rfl) (lc_i (show (0 : Int) = ((0 : Nat) : Int) by omega) rfl)))))
      · skip
        refine lv_aload_n hx hb dX7_fairest_17 rfl (lv_at hl 0 rfl) ?_
        refine n_get hx hb hts u_X7 hown hK hP (by omega) f_y rfl 18 (by decide) (nT_m wf_X7_62) rfl dX7_fairest_18 ?_
        refine n_iconst hx hb dX7_fairest_21 ?_
        refine lv_iload_n hx hb dX7_fairest_22 rfl (lv_at hl 1 rfl) ?_
        refine n_imul hx hb dX7_fairest_23 ?_
        refine lv_aload_n hx hb dX7_fairest_24 rfl (lv_at hl 0 rfl) ?_
        refine lv_iload_n hx hb dX7_fairest_25 rfl (lv_at hl 1 rfl) ?_
        refine n_iconst hx hb dX7_fairest_26 ?_
        refine n_rdF (va_runV (As := [.int (iI ((q : Nat) : Int)), .int (iI 0)]) (rest := [.int (iI (2 * ((q : Nat) : Int))), .ref (ad (y + 18))]) ⟨hx, hb, hml, hown, hts⟩ (c_X7_gainOf _ Ra Pr Ti St q 0 (by omega) hRa hPr hTi hSt (by omega) (by omega) f_y f_Ra f_Pr f_Ti f_St) (cwV 2 hts (nT_V wl_X7_110 wi_X7_gainOf ws_X7_gainOf wn_X7 wc_X7_gainOf) rfl rfl rfl (by decide +kernel) ⟨Nat.le_of_ble_eq_true rfl, Nat.le_of_ble_eq_true rfl⟩) (nB.preV hK hI hP (by omega) f_y rfl rfl) rfl rfl hl.1 rfl (lv_room (Nat.le_of_ble_eq_true rfl)) dX7_fairest_27 ⟨Nat.zero_le _, Nat.zero_le _⟩) ?_
        refine n_last hx hb hK hJ hP hS (2 * q) (by omega) f_one (by omega) (by omega) (by decide) dX7_fairest_30 (fun w15 H locs f_one hne16 hP hS => ?_)
        have f_y := (hne16 y (by omega)).trans f_y
        have f_Ra := (hne16 (y + 3) (by omega)).trans f_Ra
        have f_Go := (hne16 (y + 5) (by omega)).trans f_Go
        have f_Pr := (hne16 (y + 6) (by omega)).trans f_Pr
        have f_Ti := (hne16 (y + 7) (by omega)).trans f_Ti
        have f_St := (hne16 (y + 8) (by omega)).trans f_St
        have hfr : ∀ j, j ≠ (y + 18) → w15 j = w j := fun j a0 => (hne16 j (by omega)).trans (hfr j a0)
        refine lv_aload_n hx hb dX7_fairest_31 rfl (lv_at hl 0 rfl) ?_
        refine n_get hx hb hts u_X7 hown hK hP (by omega) f_y rfl 18 (by decide) (nT_m wf_X7_62) rfl dX7_fairest_32 ?_
        refine n_iconst hx hb dX7_fairest_35 ?_
        refine lv_iload_n hx hb dX7_fairest_36 rfl (lv_at hl 1 rfl) ?_
        refine n_imul hx hb dX7_fairest_37 ?_
        refine n_iconst hx hb dX7_fairest_38 ?_
        refine n_iadd hx hb dX7_fairest_39 ?_
        refine lv_aload_n hx hb dX7_fairest_40 rfl (lv_at hl 0 rfl) ?_
        refine lv_iload_n hx hb dX7_fairest_41 rfl (lv_at hl 1 rfl) ?_
        refine n_iconst hx hb dX7_fairest_42 ?_
        refine n_rdF (va_runV (As := [.int (iI ((q : Nat) : Int)), .int (iI 1)]) (rest := [.int (iI ((2 * ((q : Nat) : Int)) + 1)), .ref (ad (y + 18))]) ⟨hx, hb, hml, hown, hts⟩ (c_X7_gainOf _ Ra Pr Ti St q 1 (by omega) hRa hPr hTi hSt (by omega) (by omega) f_y f_Ra f_Pr f_Ti f_St) (cwV 2 hts (nT_V wl_X7_110 wi_X7_gainOf ws_X7_gainOf wn_X7 wc_X7_gainOf) rfl rfl rfl (by decide +kernel) ⟨Nat.le_of_ble_eq_true rfl, Nat.le_of_ble_eq_true rfl⟩) (nB.preV hK hI hP (by omega) f_y rfl rfl) rfl rfl hl.1 rfl (lv_room (Nat.le_of_ble_eq_true rfl)) dX7_fairest_43 ⟨Nat.zero_le _, Nat.zero_le _⟩) ?_
        refine n_last hx hb hK hJ hP hS ((2 * q) + 1) (by omega) f_one (by omega) (by omega) (by decide) dX7_fairest_46 (fun w17 H locs f_one hne18 hP hS => ?_)
        have f_y := (hne18 y (by omega)).trans f_y
        have f_Ra := (hne18 (y + 3) (by omega)).trans f_Ra
        have f_Go := (hne18 (y + 5) (by omega)).trans f_Go
        have f_Pr := (hne18 (y + 6) (by omega)).trans f_Pr
        have f_Ti := (hne18 (y + 7) (by omega)).trans f_Ti
        have f_St := (hne18 (y + 8) (by omega)).trans f_St
        have hfr : ∀ j, j ≠ (y + 18) → w17 j = w j := fun j a0 => (hne18 j (by omega)).trans (hfr j a0)
        refine lv_iinc (v := iI (((q : Nat) : Int) + 1)) (lv' := [(1, .int (iI (((q : Nat) : Int) + 1))), (0, .ref (ad y))]) hx hb dX7_fairest_47 hl (k := 1) rfl (by first | exact iI_add _ _ | exact (iI_add _ _).trans (congrArg iI (by omega))) (by decide) rfl (fun ls hl => ?_)
        refine lv_goto (tgt := 7) hx hb dX7_fairest_50 (by decide) ?_
        exact ih5 (q + 1) _ _ _ _ (by omega) (by omega) hfr f_y f_Ra f_Go f_Pr f_Ti f_St (f_one.trans (congrArg (aJ G 28) (oneF_s on0 (fun a9 c9 => gnV Pr Ti (Ra 0) (Ra 1) (St 0) a9 c9) q))) hP hS (by first | exact lv_sub hl [1, 0] rfl | exact lv_cast (lv_sub (l' := [(0, .ref (ad y)), (1, .int (iI (((q : Nat) : Int) + 1)))]) hl [1, 0] rfl) (lc_s (lc_i (show ((((q : Nat) : Int) + 1) : Int) = (((q + 1) : Nat) : Int) by omega) rfl)))
  exact lp3 (Go 0 - 0 + 1) 0 _ _ _ _ (Nat.lt_succ_self _) (by omega) hfr f_y f_Ra f_Go f_Pr f_Ti f_St (f_one.trans (by rw [oneF_0])) hP hS (by first | exact lv_sub hl [1, 0] rfl | exact lv_cast (lv_sub (l' := [(0, .ref (ad y)), (1, .int (iI 0))]) hl [1, 0] rfl) (lc_s (lc_i (show (0 : Int) = ((0 : Nat) : Int) by omega) rfl)))
