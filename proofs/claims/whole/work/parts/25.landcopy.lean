
def tillAt (G : nG) (ad : Nat → Nat) (w : Nat → va_E) (T : Nat) (D : Nat → Nat → Nat) : Prop := w T = .inr (5, [.ref (ad (T + 1)), .ref (ad (T + 2)), .ref (ad (T + 3)), .ref (ad (T + 4)), .int (iI ((D 0 0 : Nat) : Int)), .long (jI ((D 1 0 : Nat) : Int)), .long (jI ((D 2 0 : Nat) : Int))]) ∧ w (T + 1) = aI G 8 (fun q => (D 4 q : Int)) ∧ w (T + 2) = aI G 8 (fun q => (D 5 q : Int)) ∧ w (T + 3) = aI G 8 (fun q => (D 6 q : Int)) ∧ w (T + 4) = .inr (2, [.int (iI ((D 3 0 : Nat) : Int)), .ref (ad (T + 4 + 1)), .ref (ad (T + 4 + 2)), .ref (ad (T + 4 + 3)), .ref (ad (T + 4 + 4))]) ∧ w (T + 4 + 1) = aI G 20 (fun q => (D 7 q : Int)) ∧ w (T + 4 + 2) = aI G 20 (fun q => (D 8 q : Int)) ∧ w (T + 4 + 3) = aI G 20 (fun q => (D 9 q : Int)) ∧ w (T + 4 + 4) = aI G 20 (fun q => (D 10 q : Int))
theorem tillAt_fr {G : nG} {ad : Nat → Nat} {w w1 : Nat → va_E} {T : Nat} {D : Nat → Nat → Nat} (hne : ∀ j, T ≤ j → j < T + 9 → w1 j = w j) (h : tillAt G ad w T D) : tillAt G ad w1 T D := by
  obtain ⟨h0, h1, h2, h3, h4, h5, h6, h7, h8⟩ := h
  exact ⟨(hne _ (by omega) (by omega)).trans h0, (hne _ (by omega) (by omega)).trans h1, (hne _ (by omega) (by omega)).trans h2, (hne _ (by omega) (by omega)).trans h3, (hne _ (by omega) (by omega)).trans h4, (hne _ (by omega) (by omega)).trans h5, (hne _ (by omega) (by omega)).trans h6, (hne _ (by omega) (by omega)).trans h7, (hne _ (by omega) (by omega)).trans h8⟩
def mixD (q : Nat) (D2 D1 : Nat → Nat → Nat → Nat) : Nat → Nat → Nat → Nat := fun t => if t < q then D2 t else D1 t
theorem mixD_0 (D2 D1 : Nat → Nat → Nat → Nat) : mixD 0 D2 D1 = D1 := by
  funext t
  unfold mixD
  rw [if_neg (Nat.not_lt_zero t)]
theorem mixD_s {G : nG} {ad : Nat → Nat} {w w1 : Nat → va_E} {i q : Nat} {D2 D1 : Nat → Nat → Nat → Nat} (hne : ∀ t, t < 4 → t ≠ q → ∀ j, i + 14 + 9 * t ≤ j → j < i + 14 + 9 * t + 9 → w1 j = w j) (h : ∀ t, t < 4 → tillAt G ad w (i + 14 + 9 * t) (mixD q D2 D1 t)) (hq : tillAt G ad w1 (i + 14 + 9 * q) (D2 q)) : ∀ t, t < 4 → tillAt G ad w1 (i + 14 + 9 * t) (mixD (q + 1) D2 D1 t) := by
  intro t ht
  by_cases e : t = q
  · subst e
    have e1 : mixD (t + 1) D2 D1 t = D2 t := if_pos (Nat.lt_succ_self t)
    rw [e1]
    exact hq
  · have e1 : mixD (q + 1) D2 D1 t = mixD q D2 D1 t := by
      unfold mixD
      by_cases h2 : t < q
      · rw [if_pos h2, if_pos (by omega)]
      · rw [if_neg h2, if_neg (by omega)]
    rw [e1]
    exact tillAt_fr (hne t ht e) (h t ht)
set_option maxHeartbeats 4000000 in
set_option maxRecDepth 100000 in
theorem c_X4_copyFrom {l : Launch} {G : nG} {N : Nat} {ad : Nat → Nat} {w : Nat → va_E} {sz : Nat} (i j0 : Nat) (tn1 tn2 ra1 ra2 rb1 rb2 st1 st2 cnp1 cnp2 cnq1 cnq2 gn1 gn2 : Nat) (vlp1 vlp2 vlq1 vlq2 flp1 flp2 flq1 flq2 gp1 gp2 gt1 gt2 dr1 dr2 : Nat → Nat) (lsp1 lsp2 lsq1 lsq2 : Nat → Int) (D1 D2 : Nat → Nat → Nat → Nat) (hN : i + 49 < N ∧ j0 + 49 < N) (hd : i + 49 < j0 ∨ j0 + 49 < i) (f_Ld : w i = .inr (4, [.ref (ad (i + 1)), .ref (ad (i + 5)), .ref (ad (i + 9)), .ref (ad (i + 12)), .ref (ad (i + 13)), .int (iI ((tn1 : Nat) : Int)), .int (iI ((ra1 : Nat) : Int)), .int (iI ((rb1 : Nat) : Int)), .int (iI ((st1 : Nat) : Int))])) (f_opd : w (i + 1) = .inr (1, [.int (iI ((cnp1 : Nat) : Int)), .ref (ad ((i + 1) + 1)), .ref (ad ((i + 1) + 2)), .ref (ad ((i + 1) + 3))])) (f_vpd : w ((i + 1) + 1) = aI G 8 (fun q => (vlp1 q : Int))) (f_fpd : w ((i + 1) + 2) = aI G 8 (fun q => (flp1 q : Int))) (f_lpd : w ((i + 1) + 3) = aI G 2001 lsp1) (f_oqd : w (i + 5) = .inr (1, [.int (iI ((cnq1 : Nat) : Int)), .ref (ad ((i + 5) + 1)), .ref (ad ((i + 5) + 2)), .ref (ad ((i + 5) + 3))])) (f_vqd : w ((i + 5) + 1) = aI G 8 (fun q => (vlq1 q : Int))) (f_fqd : w ((i + 5) + 2) = aI G 8 (fun q => (flq1 q : Int))) (f_lqd : w ((i + 5) + 3) = aI G 2001 lsq1) (f_gd : w (i + 9) = .inr (3, [.int (iI ((gn1 : Nat) : Int)), .ref (ad ((i + 9) + 1)), .ref (ad ((i + 9) + 2))])) (f_gpd : w ((i + 9) + 1) = aI G 14 (fun q => (gp1 q : Int))) (f_gtd : w ((i + 9) + 2) = aI G 14 (fun q => (gt1 q : Int))) (f_drd : w (i + 13) = aI G 8 (fun q => (dr1 q : Int))) (f_Ls : w j0 = .inr (4, [.ref (ad (j0 + 1)), .ref (ad (j0 + 5)), .ref (ad (j0 + 9)), .ref (ad (j0 + 12)), .ref (ad (j0 + 13)), .int (iI ((tn2 : Nat) : Int)), .int (iI ((ra2 : Nat) : Int)), .int (iI ((rb2 : Nat) : Int)), .int (iI ((st2 : Nat) : Int))])) (f_ops : w (j0 + 1) = .inr (1, [.int (iI ((cnp2 : Nat) : Int)), .ref (ad ((j0 + 1) + 1)), .ref (ad ((j0 + 1) + 2)), .ref (ad ((j0 + 1) + 3))])) (f_vps : w ((j0 + 1) + 1) = aI G 8 (fun q => (vlp2 q : Int))) (f_fps : w ((j0 + 1) + 2) = aI G 8 (fun q => (flp2 q : Int))) (f_lps : w ((j0 + 1) + 3) = aI G 2001 lsp2) (f_oqs : w (j0 + 5) = .inr (1, [.int (iI ((cnq2 : Nat) : Int)), .ref (ad ((j0 + 5) + 1)), .ref (ad ((j0 + 5) + 2)), .ref (ad ((j0 + 5) + 3))])) (f_vqs : w ((j0 + 5) + 1) = aI G 8 (fun q => (vlq2 q : Int))) (f_fqs : w ((j0 + 5) + 2) = aI G 8 (fun q => (flq2 q : Int))) (f_lqs : w ((j0 + 5) + 3) = aI G 2001 lsq2) (f_gs : w (j0 + 9) = .inr (3, [.int (iI ((gn2 : Nat) : Int)), .ref (ad ((j0 + 9) + 1)), .ref (ad ((j0 + 9) + 2))])) (f_gps : w ((j0 + 9) + 1) = aI G 14 (fun q => (gp2 q : Int))) (f_gts : w ((j0 + 9) + 2) = aI G 14 (fun q => (gt2 q : Int))) (f_drs : w (j0 + 13) = aI G 8 (fun q => (dr2 q : Int))) (f_tsd : w (i + 12) = aR G 3 4 (fun k => some (ad (i + 14 + 9 * k)))) (f_tss : w (j0 + 12) = aR G 3 4 (fun k => some (ad (j0 + 14 + 9 * k)))) (f_td : ∀ t, t < 4 → tillAt G ad w (i + 14 + 9 * t) (D1 t)) (f_tv : ∀ t, t < 4 → tillAt G ad w (j0 + 14 + 9 * t) (D2 t)) : Met l yX4_copyFrom wsX4_copyFrom ({ frames := 3, cells := 0, slots := 0, locals := 60 }) (va_Pc [.ref (ad i), .ref (ad j0)] (nB G N ad w sz)) (nPv G N ad sz (fun u => (∀ j, ¬ (i ≤ j ∧ j < i + 50) → u j = w j) ∧ (u i = .inr (4, [.ref (ad (i + 1)), .ref (ad (i + 5)), .ref (ad (i + 9)), .ref (ad (i + 12)), .ref (ad (i + 13)), .int (iI ((tn2 : Nat) : Int)), .int (iI ((ra2 : Nat) : Int)), .int (iI ((rb2 : Nat) : Int)), .int (iI ((st2 : Nat) : Int))])) ∧ (u (i + 1) = .inr (1, [.int (iI ((cnp2 : Nat) : Int)), .ref (ad ((i + 1) + 1)), .ref (ad ((i + 1) + 2)), .ref (ad ((i + 1) + 3))])) ∧ (u ((i + 1) + 1) = aI G 8 (fun q => (vlp2 q : Int))) ∧ (u ((i + 1) + 2) = aI G 8 (fun q => (flp2 q : Int))) ∧ (u ((i + 1) + 3) = aI G 2001 lsp2) ∧ (u (i + 5) = .inr (1, [.int (iI ((cnq2 : Nat) : Int)), .ref (ad ((i + 5) + 1)), .ref (ad ((i + 5) + 2)), .ref (ad ((i + 5) + 3))])) ∧ (u ((i + 5) + 1) = aI G 8 (fun q => (vlq2 q : Int))) ∧ (u ((i + 5) + 2) = aI G 8 (fun q => (flq2 q : Int))) ∧ (u ((i + 5) + 3) = aI G 2001 lsq2) ∧ (u (i + 9) = .inr (3, [.int (iI ((gn2 : Nat) : Int)), .ref (ad ((i + 9) + 1)), .ref (ad ((i + 9) + 2))])) ∧ (u ((i + 9) + 1) = aI G 14 (fun q => (gp2 q : Int))) ∧ (u ((i + 9) + 2) = aI G 14 (fun q => (gt2 q : Int))) ∧ (u (i + 13) = aI G 8 (fun q => (dr2 q : Int))) ∧ (u (i + 12) = aR G 3 4 (fun k => some (ad (i + 14 + 9 * k)))) ∧ (∀ t, t < 4 → tillAt G ad u (i + 14 + 9 * t) (D2 t)))) 0 0 (nA N ad sz) := by
  refine n_ent (cc := cX4_copyFrom) (maxL := 3) (ret := (none : Option Jvm.ClassFile.FieldType)) (by decide) rfl (Nat.le_of_ble_eq_true rfl) ?_
  intro p e s m below meth cd hx hb hr hml hlocks hts hown hnm hsz hP hK hI Q hQ ls hl
  have hown : s.vm.findClass RX4 = some m.cls := hown
  subst hsz
  have hJ := hI.J s.heap.size
  have hS : va_S (nA N ad s.heap.size) s.heap s.heap [] := va_S.rf
  have hfr : ∀ j, ¬ (i ≤ j ∧ j < i + 50) → w j = w j := fun _ _ => rfl
  have hl : lv_has ls 3 [(0, .ref (ad i)), (1, .ref (ad j0))] := hl
  refine lv_aload_n hx hb dX4_copyFrom_0 rfl (lv_at hl 0 rfl) ?_
  refine n_get hx hb hts u_X4 hown hK hP (by omega) f_Ld rfl 0 (by decide) (nT_m wf_X4_12) rfl dX4_copyFrom_1 ?_
  refine lv_aload_n hx hb dX4_copyFrom_4 rfl (lv_at hl 1 rfl) ?_
  refine n_get hx hb hts u_X4 hown hK hP (by omega) f_Ls rfl 0 (by decide) (nT_m wf_X4_12) rfl dX4_copyFrom_5 ?_
  refine n_cV (va_runV (As := [.ref (ad (j0 + 1))]) (rest := []) ⟨hx, hb, hml, hown, hts⟩ (c_X1_copyFrom _ _ _ _ _ _ _ _ _ _ (by omega) (by omega) f_opd f_vpd f_fpd f_lpd f_ops f_vps f_fps f_lps) (cwV 1 hts (nT_V wl_X4_52 wi_X1_copyFrom ws_X1_copyFrom wn_X1 wc_X1_copyFrom) rfl rfl rfl (by decide +kernel) ⟨Nat.le_of_ble_eq_true rfl, Nat.le_of_ble_eq_true rfl⟩) (nB.preV hK hI hP (by omega) f_opd rfl rfl) rfl rfl hl.1 rfl (lv_room (Nat.le_of_ble_eq_true rfl)) dX4_copyFrom_8 ⟨Nat.zero_le _, Nat.zero_le _⟩) hS (fun w1 H locs hq3 hP hS => ?_)
  obtain ⟨hne4, hp_op, hp_vp, hp_fp, hp_lp⟩ := hq3
  have f_Ld := (hne4 i (by omega) (by omega) (by omega) (by omega)).trans f_Ld
  have f_oqd := (hne4 (i + 5) (by omega) (by omega) (by omega) (by omega)).trans f_oqd
  have f_vqd := (hne4 ((i + 5) + 1) (by omega) (by omega) (by omega) (by omega)).trans f_vqd
  have f_fqd := (hne4 ((i + 5) + 2) (by omega) (by omega) (by omega) (by omega)).trans f_fqd
  have f_lqd := (hne4 ((i + 5) + 3) (by omega) (by omega) (by omega) (by omega)).trans f_lqd
  have f_gd := (hne4 (i + 9) (by omega) (by omega) (by omega) (by omega)).trans f_gd
  have f_gpd := (hne4 ((i + 9) + 1) (by omega) (by omega) (by omega) (by omega)).trans f_gpd
  have f_gtd := (hne4 ((i + 9) + 2) (by omega) (by omega) (by omega) (by omega)).trans f_gtd
  have f_drd := (hne4 (i + 13) (by omega) (by omega) (by omega) (by omega)).trans f_drd
  have f_Ls := (hne4 j0 (by omega) (by omega) (by omega) (by omega)).trans f_Ls
  have f_ops := (hne4 (j0 + 1) (by omega) (by omega) (by omega) (by omega)).trans f_ops
  have f_vps := (hne4 ((j0 + 1) + 1) (by omega) (by omega) (by omega) (by omega)).trans f_vps
  have f_fps := (hne4 ((j0 + 1) + 2) (by omega) (by omega) (by omega) (by omega)).trans f_fps
  have f_lps := (hne4 ((j0 + 1) + 3) (by omega) (by omega) (by omega) (by omega)).trans f_lps
  have f_oqs := (hne4 (j0 + 5) (by omega) (by omega) (by omega) (by omega)).trans f_oqs
  have f_vqs := (hne4 ((j0 + 5) + 1) (by omega) (by omega) (by omega) (by omega)).trans f_vqs
  have f_fqs := (hne4 ((j0 + 5) + 2) (by omega) (by omega) (by omega) (by omega)).trans f_fqs
  have f_lqs := (hne4 ((j0 + 5) + 3) (by omega) (by omega) (by omega) (by omega)).trans f_lqs
  have f_gs := (hne4 (j0 + 9) (by omega) (by omega) (by omega) (by omega)).trans f_gs
  have f_gps := (hne4 ((j0 + 9) + 1) (by omega) (by omega) (by omega) (by omega)).trans f_gps
  have f_gts := (hne4 ((j0 + 9) + 2) (by omega) (by omega) (by omega) (by omega)).trans f_gts
  have f_drs := (hne4 (j0 + 13) (by omega) (by omega) (by omega) (by omega)).trans f_drs
  have f_tsd := (hne4 (i + 12) (by omega) (by omega) (by omega) (by omega)).trans f_tsd
  have f_tss := (hne4 (j0 + 12) (by omega) (by omega) (by omega) (by omega)).trans f_tss
  have f_td : ∀ t, t < 4 → tillAt G ad w1 (i + 14 + 9 * t) (D1 t) := (fun t hk9 => tillAt_fr (fun j h1 h2 => hne4 j (by omega) (by omega) (by omega) (by omega)) (f_td t hk9))
  have f_tv : ∀ t, t < 4 → tillAt G ad w1 (j0 + 14 + 9 * t) (D2 t) := (fun t hk9 => tillAt_fr (fun j h1 h2 => hne4 j (by omega) (by omega) (by omega) (by omega)) (f_tv t hk9))
  have f_opd : w1 (i + 1) = .inr (1, [.int (iI ((cnp2 : Nat) : Int)), .ref (ad ((i + 1) + 1)), .ref (ad ((i + 1) + 2)), .ref (ad ((i + 1) + 3))]) := hp_op
  have f_vpd : w1 ((i + 1) + 1) = aI G 8 (fun q => (vlp2 q : Int)) := hp_vp
  have f_fpd : w1 ((i + 1) + 2) = aI G 8 (fun q => (flp2 q : Int)) := hp_fp
  have f_lpd : w1 ((i + 1) + 3) = aI G 2001 lsp2 := hp_lp
  have hfr : ∀ j, ¬ (i ≤ j ∧ j < i + 50) → w1 j = w j := fun j a0 => (hne4 j (by omega) (by omega) (by omega) (by omega)).trans (hfr j a0)
  refine lv_aload_n hx hb dX4_copyFrom_11 rfl (lv_at hl 0 rfl) ?_
  refine n_get hx hb hts u_X4 hown hK hP (by omega) f_Ld rfl 1 (by decide) (nT_m wf_X4_18) rfl dX4_copyFrom_12 ?_
  refine lv_aload_n hx hb dX4_copyFrom_15 rfl (lv_at hl 1 rfl) ?_
  refine n_get hx hb hts u_X4 hown hK hP (by omega) f_Ls rfl 1 (by decide) (nT_m wf_X4_18) rfl dX4_copyFrom_16 ?_
  refine n_cV (va_runV (As := [.ref (ad (j0 + 5))]) (rest := []) ⟨hx, hb, hml, hown, hts⟩ (c_X1_copyFrom _ _ _ _ _ _ _ _ _ _ (by omega) (by omega) f_oqd f_vqd f_fqd f_lqd f_oqs f_vqs f_fqs f_lqs) (cwV 1 hts (nT_V wl_X4_52 wi_X1_copyFrom ws_X1_copyFrom wn_X1 wc_X1_copyFrom) rfl rfl rfl (by decide +kernel) ⟨Nat.le_of_ble_eq_true rfl, Nat.le_of_ble_eq_true rfl⟩) (nB.preV hK hI hP (by omega) f_oqd rfl rfl) rfl rfl hl.1 rfl (lv_room (Nat.le_of_ble_eq_true rfl)) dX4_copyFrom_19 ⟨Nat.zero_le _, Nat.zero_le _⟩) hS (fun w5 H locs hq7 hP hS => ?_)
  obtain ⟨hne8, hp_oq, hp_vq, hp_fq, hp_lq⟩ := hq7
  have f_Ld := (hne8 i (by omega) (by omega) (by omega) (by omega)).trans f_Ld
  have f_opd := (hne8 (i + 1) (by omega) (by omega) (by omega) (by omega)).trans f_opd
  have f_vpd := (hne8 ((i + 1) + 1) (by omega) (by omega) (by omega) (by omega)).trans f_vpd
  have f_fpd := (hne8 ((i + 1) + 2) (by omega) (by omega) (by omega) (by omega)).trans f_fpd
  have f_lpd := (hne8 ((i + 1) + 3) (by omega) (by omega) (by omega) (by omega)).trans f_lpd
  have f_gd := (hne8 (i + 9) (by omega) (by omega) (by omega) (by omega)).trans f_gd
  have f_gpd := (hne8 ((i + 9) + 1) (by omega) (by omega) (by omega) (by omega)).trans f_gpd
  have f_gtd := (hne8 ((i + 9) + 2) (by omega) (by omega) (by omega) (by omega)).trans f_gtd
  have f_drd := (hne8 (i + 13) (by omega) (by omega) (by omega) (by omega)).trans f_drd
  have f_Ls := (hne8 j0 (by omega) (by omega) (by omega) (by omega)).trans f_Ls
  have f_ops := (hne8 (j0 + 1) (by omega) (by omega) (by omega) (by omega)).trans f_ops
  have f_vps := (hne8 ((j0 + 1) + 1) (by omega) (by omega) (by omega) (by omega)).trans f_vps
  have f_fps := (hne8 ((j0 + 1) + 2) (by omega) (by omega) (by omega) (by omega)).trans f_fps
  have f_lps := (hne8 ((j0 + 1) + 3) (by omega) (by omega) (by omega) (by omega)).trans f_lps
  have f_oqs := (hne8 (j0 + 5) (by omega) (by omega) (by omega) (by omega)).trans f_oqs
  have f_vqs := (hne8 ((j0 + 5) + 1) (by omega) (by omega) (by omega) (by omega)).trans f_vqs
  have f_fqs := (hne8 ((j0 + 5) + 2) (by omega) (by omega) (by omega) (by omega)).trans f_fqs
  have f_lqs := (hne8 ((j0 + 5) + 3) (by omega) (by omega) (by omega) (by omega)).trans f_lqs
  have f_gs := (hne8 (j0 + 9) (by omega) (by omega) (by omega) (by omega)).trans f_gs
  have f_gps := (hne8 ((j0 + 9) + 1) (by omega) (by omega) (by omega) (by omega)).trans f_gps
  have f_gts := (hne8 ((j0 + 9) + 2) (by omega) (by omega) (by omega) (by omega)).trans f_gts
  have f_drs := (hne8 (j0 + 13) (by omega) (by omega) (by omega) (by omega)).trans f_drs
  have f_tsd := (hne8 (i + 12) (by omega) (by omega) (by omega) (by omega)).trans f_tsd
  have f_tss := (hne8 (j0 + 12) (by omega) (by omega) (by omega) (by omega)).trans f_tss
  have f_td : ∀ t, t < 4 → tillAt G ad w5 (i + 14 + 9 * t) (D1 t) := (fun t hk9 => tillAt_fr (fun j h1 h2 => hne8 j (by omega) (by omega) (by omega) (by omega)) (f_td t hk9))
  have f_tv : ∀ t, t < 4 → tillAt G ad w5 (j0 + 14 + 9 * t) (D2 t) := (fun t hk9 => tillAt_fr (fun j h1 h2 => hne8 j (by omega) (by omega) (by omega) (by omega)) (f_tv t hk9))
  have f_oqd : w5 (i + 5) = .inr (1, [.int (iI ((cnq2 : Nat) : Int)), .ref (ad ((i + 5) + 1)), .ref (ad ((i + 5) + 2)), .ref (ad ((i + 5) + 3))]) := hp_oq
  have f_vqd : w5 ((i + 5) + 1) = aI G 8 (fun q => (vlq2 q : Int)) := hp_vq
  have f_fqd : w5 ((i + 5) + 2) = aI G 8 (fun q => (flq2 q : Int)) := hp_fq
  have f_lqd : w5 ((i + 5) + 3) = aI G 2001 lsq2 := hp_lq
  have hfr : ∀ j, ¬ (i ≤ j ∧ j < i + 50) → w5 j = w j := fun j a0 => (hne8 j (by omega) (by omega) (by omega) (by omega)).trans (hfr j a0)
  refine lv_aload_n hx hb dX4_copyFrom_22 rfl (lv_at hl 0 rfl) ?_
  refine n_get hx hb hts u_X4 hown hK hP (by omega) f_Ld rfl 2 (by decide) (nT_m wf_X4_24) rfl dX4_copyFrom_23 ?_
  refine lv_aload_n hx hb dX4_copyFrom_26 rfl (lv_at hl 1 rfl) ?_
  refine n_get hx hb hts u_X4 hown hK hP (by omega) f_Ls rfl 2 (by decide) (nT_m wf_X4_24) rfl dX4_copyFrom_27 ?_
  refine n_cV (va_runV (As := [.ref (ad (j0 + 9))]) (rest := []) ⟨hx, hb, hml, hown, hts⟩ (c_X3_copyFrom _ _ _ _ _ _ _ _ (by omega) (by omega) f_gd f_gpd f_gtd f_gs f_gps f_gts) (cwV 1 hts (nT_V wl_X4_56 wi_X3_copyFrom ws_X3_copyFrom wn_X3 wc_X3_copyFrom) rfl rfl rfl (by decide +kernel) ⟨Nat.le_of_ble_eq_true rfl, Nat.le_of_ble_eq_true rfl⟩) (nB.preV hK hI hP (by omega) f_gd rfl rfl) rfl rfl hl.1 rfl (lv_room (Nat.le_of_ble_eq_true rfl)) dX4_copyFrom_30 ⟨Nat.zero_le _, Nat.zero_le _⟩) hS (fun w9 H locs hq11 hP hS => ?_)
  obtain ⟨hne12, hp_g, hp_gp, hp_gt⟩ := hq11
  have f_Ld := (hne12 i (by omega) (by omega) (by omega)).trans f_Ld
  have f_opd := (hne12 (i + 1) (by omega) (by omega) (by omega)).trans f_opd
  have f_vpd := (hne12 ((i + 1) + 1) (by omega) (by omega) (by omega)).trans f_vpd
  have f_fpd := (hne12 ((i + 1) + 2) (by omega) (by omega) (by omega)).trans f_fpd
  have f_lpd := (hne12 ((i + 1) + 3) (by omega) (by omega) (by omega)).trans f_lpd
  have f_oqd := (hne12 (i + 5) (by omega) (by omega) (by omega)).trans f_oqd
  have f_vqd := (hne12 ((i + 5) + 1) (by omega) (by omega) (by omega)).trans f_vqd
  have f_fqd := (hne12 ((i + 5) + 2) (by omega) (by omega) (by omega)).trans f_fqd
  have f_lqd := (hne12 ((i + 5) + 3) (by omega) (by omega) (by omega)).trans f_lqd
  have f_drd := (hne12 (i + 13) (by omega) (by omega) (by omega)).trans f_drd
  have f_Ls := (hne12 j0 (by omega) (by omega) (by omega)).trans f_Ls
  have f_ops := (hne12 (j0 + 1) (by omega) (by omega) (by omega)).trans f_ops
  have f_vps := (hne12 ((j0 + 1) + 1) (by omega) (by omega) (by omega)).trans f_vps
  have f_fps := (hne12 ((j0 + 1) + 2) (by omega) (by omega) (by omega)).trans f_fps
  have f_lps := (hne12 ((j0 + 1) + 3) (by omega) (by omega) (by omega)).trans f_lps
  have f_oqs := (hne12 (j0 + 5) (by omega) (by omega) (by omega)).trans f_oqs
  have f_vqs := (hne12 ((j0 + 5) + 1) (by omega) (by omega) (by omega)).trans f_vqs
  have f_fqs := (hne12 ((j0 + 5) + 2) (by omega) (by omega) (by omega)).trans f_fqs
  have f_lqs := (hne12 ((j0 + 5) + 3) (by omega) (by omega) (by omega)).trans f_lqs
  have f_gs := (hne12 (j0 + 9) (by omega) (by omega) (by omega)).trans f_gs
  have f_gps := (hne12 ((j0 + 9) + 1) (by omega) (by omega) (by omega)).trans f_gps
  have f_gts := (hne12 ((j0 + 9) + 2) (by omega) (by omega) (by omega)).trans f_gts
  have f_drs := (hne12 (j0 + 13) (by omega) (by omega) (by omega)).trans f_drs
  have f_tsd := (hne12 (i + 12) (by omega) (by omega) (by omega)).trans f_tsd
  have f_tss := (hne12 (j0 + 12) (by omega) (by omega) (by omega)).trans f_tss
  have f_td : ∀ t, t < 4 → tillAt G ad w9 (i + 14 + 9 * t) (D1 t) := (fun t hk9 => tillAt_fr (fun j h1 h2 => hne12 j (by omega) (by omega) (by omega)) (f_td t hk9))
  have f_tv : ∀ t, t < 4 → tillAt G ad w9 (j0 + 14 + 9 * t) (D2 t) := (fun t hk9 => tillAt_fr (fun j h1 h2 => hne12 j (by omega) (by omega) (by omega)) (f_tv t hk9))
  have f_gd : w9 (i + 9) = .inr (3, [.int (iI ((gn2 : Nat) : Int)), .ref (ad ((i + 9) + 1)), .ref (ad ((i + 9) + 2))]) := hp_g
  have f_gpd : w9 ((i + 9) + 1) = aI G 14 (fun q => (gp2 q : Int)) := hp_gp
  have f_gtd : w9 ((i + 9) + 2) = aI G 14 (fun q => (gt2 q : Int)) := hp_gt
  have hfr : ∀ j, ¬ (i ≤ j ∧ j < i + 50) → w9 j = w j := fun j a0 => (hne12 j (by omega) (by omega) (by omega)).trans (hfr j a0)
  refine n_iconst hx hb dX4_copyFrom_33 ?_
  refine lv_istore_n (lv' := [(2, .int (iI 0)), (0, .ref (ad i)), (1, .ref (ad j0))]) hx hb dX4_copyFrom_34 rfl hl (by decide) rfl (fun ls hl => ?_)
  have lp13 : ∀ (fu : Nat), ∀ (q : Nat), ∀ (w14 : Nat → va_E) (H : Heap) (locs : List Loc), ∀ (ls : Array Slot), 4 - q < fu → q ≤ 4 → (∀ j, ¬ (i ≤ j ∧ j < i + 50) → w14 j = w j) → w14 i = .inr (4, [.ref (ad (i + 1)), .ref (ad (i + 5)), .ref (ad (i + 9)), .ref (ad (i + 12)), .ref (ad (i + 13)), .int (iI ((tn1 : Nat) : Int)), .int (iI ((ra1 : Nat) : Int)), .int (iI ((rb1 : Nat) : Int)), .int (iI ((st1 : Nat) : Int))]) → w14 (i + 1) = .inr (1, [.int (iI ((cnp2 : Nat) : Int)), .ref (ad ((i + 1) + 1)), .ref (ad ((i + 1) + 2)), .ref (ad ((i + 1) + 3))]) → w14 ((i + 1) + 1) = aI G 8 (fun q => (vlp2 q : Int)) → w14 ((i + 1) + 2) = aI G 8 (fun q => (flp2 q : Int)) → w14 ((i + 1) + 3) = aI G 2001 lsp2 → w14 (i + 5) = .inr (1, [.int (iI ((cnq2 : Nat) : Int)), .ref (ad ((i + 5) + 1)), .ref (ad ((i + 5) + 2)), .ref (ad ((i + 5) + 3))]) → w14 ((i + 5) + 1) = aI G 8 (fun q => (vlq2 q : Int)) → w14 ((i + 5) + 2) = aI G 8 (fun q => (flq2 q : Int)) → w14 ((i + 5) + 3) = aI G 2001 lsq2 → w14 (i + 9) = .inr (3, [.int (iI ((gn2 : Nat) : Int)), .ref (ad ((i + 9) + 1)), .ref (ad ((i + 9) + 2))]) → w14 ((i + 9) + 1) = aI G 14 (fun q => (gp2 q : Int)) → w14 ((i + 9) + 2) = aI G 14 (fun q => (gt2 q : Int)) → w14 (i + 13) = aI G 8 (fun q => (dr1 q : Int)) → w14 j0 = .inr (4, [.ref (ad (j0 + 1)), .ref (ad (j0 + 5)), .ref (ad (j0 + 9)), .ref (ad (j0 + 12)), .ref (ad (j0 + 13)), .int (iI ((tn2 : Nat) : Int)), .int (iI ((ra2 : Nat) : Int)), .int (iI ((rb2 : Nat) : Int)), .int (iI ((st2 : Nat) : Int))]) → w14 (j0 + 1) = .inr (1, [.int (iI ((cnp2 : Nat) : Int)), .ref (ad ((j0 + 1) + 1)), .ref (ad ((j0 + 1) + 2)), .ref (ad ((j0 + 1) + 3))]) → w14 ((j0 + 1) + 1) = aI G 8 (fun q => (vlp2 q : Int)) → w14 ((j0 + 1) + 2) = aI G 8 (fun q => (flp2 q : Int)) → w14 ((j0 + 1) + 3) = aI G 2001 lsp2 → w14 (j0 + 5) = .inr (1, [.int (iI ((cnq2 : Nat) : Int)), .ref (ad ((j0 + 5) + 1)), .ref (ad ((j0 + 5) + 2)), .ref (ad ((j0 + 5) + 3))]) → w14 ((j0 + 5) + 1) = aI G 8 (fun q => (vlq2 q : Int)) → w14 ((j0 + 5) + 2) = aI G 8 (fun q => (flq2 q : Int)) → w14 ((j0 + 5) + 3) = aI G 2001 lsq2 → w14 (j0 + 9) = .inr (3, [.int (iI ((gn2 : Nat) : Int)), .ref (ad ((j0 + 9) + 1)), .ref (ad ((j0 + 9) + 2))]) → w14 ((j0 + 9) + 1) = aI G 14 (fun q => (gp2 q : Int)) → w14 ((j0 + 9) + 2) = aI G 14 (fun q => (gt2 q : Int)) → w14 (j0 + 13) = aI G 8 (fun q => (dr2 q : Int)) → w14 (i + 12) = aR G 3 4 (fun k => some (ad (i + 14 + 9 * k))) → w14 (j0 + 12) = aR G 3 4 (fun k => some (ad (j0 + 14 + 9 * k))) → (∀ t, t < 4 → tillAt G ad w14 (i + 14 + 9 * t) (mixD q D2 D1 t)) → (∀ t, t < 4 → tillAt G ad w14 (j0 + 14 + 9 * t) (D2 t)) → va_P G.1 vwCl (nL N ad w14) H → va_S (nA N ad s.heap.size) s.heap H locs → lv_has ls 3 [(0, .ref (ad i)), (1, .ref (ad j0)), (2, .int (iI ((q : Nat) : Int)))] → W p l e ({ frames := 3, cells := 0, slots := 0, locals := 60 } : Room) s m ([.ref (ad i), .ref (ad j0)] : List Value).toArray below meth cd H locs 0 0 Q (F0 m 35 ls []) := by
    intro fu
    induction fu with
    | zero =>
      intro q w14 H locs ls hfu hq hfr f_Ld f_opd f_vpd f_fpd f_lpd f_oqd f_vqd f_fqd f_lqd f_gd f_gpd f_gtd f_drd f_Ls f_ops f_vps f_fps f_lps f_oqs f_vqs f_fqs f_lqs f_gs f_gps f_gts f_drs f_tsd f_tss f_td f_tv hP hS hl
      exact absurd hfu (Nat.not_lt_zero _)
    | succ fu ih15 =>
      intro q w14 H locs ls hfu hq hfr f_Ld f_opd f_vpd f_fpd f_lpd f_oqd f_vqd f_fqd f_lqd f_gd f_gpd f_gtd f_drd f_Ls f_ops f_vps f_fps f_lps f_oqs f_vqs f_fqs f_lqs f_gs f_gps f_gts f_drs f_tsd f_tss f_td f_tv hP hS hl
      refine lv_iload_n hx hb dX4_copyFrom_35 rfl (lv_at hl 2 rfl) ?_
      refine n_iconst hx hb dX4_copyFrom_36 ?_
      refine n_icmp_ge (tgt := 61) hx hb dX4_copyFrom_37 (by decide) (by omega) (by omega) (fun hc37 => ?_) (fun hc37 => ?_)
      · skip
        refine lv_aload_n hx hb dX4_copyFrom_61 rfl (lv_at hl 1 rfl) ?_
        refine n_get hx hb hts u_X4 hown hK hP (by omega) f_Ls rfl 4 (by decide) (nT_m wf_X4_34) rfl dX4_copyFrom_62 ?_
        refine n_iconst hx hb dX4_copyFrom_65 ?_
        refine lv_aload_n hx hb dX4_copyFrom_66 rfl (lv_at hl 0 rfl) ?_
        refine n_get hx hb hts u_X4 hown hK hP (by omega) f_Ld rfl 4 (by decide) (nT_m wf_X4_34) rfl dX4_copyFrom_67 ?_
        refine n_iconst hx hb dX4_copyFrom_70 ?_
        refine n_bipush hx hb dX4_copyFrom_71 (by decide) ?_
        refine n_copy hx hb (hml.trans hl.1.symm) hown (hts _ (nT_m wl_X4_62)) (hts _ (nT_m wz_arraycopyName)) (hts _ (nT_m wt_arraycopyName)) (hts _ (nT_m wn_J10)) hK hJ hP hS (by omega) (by omega) f_drs f_drd rfl (by decide) (Nat.le_of_ble_eq_true rfl) (Nat.le_of_ble_eq_true rfl) dX4_copyFrom_73 (fun w16 H locs f_drd hne17 hP hS => ?_)
        have f_Ld := (hne17 i (by omega)).trans f_Ld
        have f_opd := (hne17 (i + 1) (by omega)).trans f_opd
        have f_vpd := (hne17 ((i + 1) + 1) (by omega)).trans f_vpd
        have f_fpd := (hne17 ((i + 1) + 2) (by omega)).trans f_fpd
        have f_lpd := (hne17 ((i + 1) + 3) (by omega)).trans f_lpd
        have f_oqd := (hne17 (i + 5) (by omega)).trans f_oqd
        have f_vqd := (hne17 ((i + 5) + 1) (by omega)).trans f_vqd
        have f_fqd := (hne17 ((i + 5) + 2) (by omega)).trans f_fqd
        have f_lqd := (hne17 ((i + 5) + 3) (by omega)).trans f_lqd
        have f_gd := (hne17 (i + 9) (by omega)).trans f_gd
        have f_gpd := (hne17 ((i + 9) + 1) (by omega)).trans f_gpd
        have f_gtd := (hne17 ((i + 9) + 2) (by omega)).trans f_gtd
        have f_Ls := (hne17 j0 (by omega)).trans f_Ls
        have f_ops := (hne17 (j0 + 1) (by omega)).trans f_ops
        have f_vps := (hne17 ((j0 + 1) + 1) (by omega)).trans f_vps
        have f_fps := (hne17 ((j0 + 1) + 2) (by omega)).trans f_fps
        have f_lps := (hne17 ((j0 + 1) + 3) (by omega)).trans f_lps
        have f_oqs := (hne17 (j0 + 5) (by omega)).trans f_oqs
        have f_vqs := (hne17 ((j0 + 5) + 1) (by omega)).trans f_vqs
        have f_fqs := (hne17 ((j0 + 5) + 2) (by omega)).trans f_fqs
        have f_lqs := (hne17 ((j0 + 5) + 3) (by omega)).trans f_lqs
        have f_gs := (hne17 (j0 + 9) (by omega)).trans f_gs
        have f_gps := (hne17 ((j0 + 9) + 1) (by omega)).trans f_gps
        have f_gts := (hne17 ((j0 + 9) + 2) (by omega)).trans f_gts
        have f_drs := (hne17 (j0 + 13) (by omega)).trans f_drs
        have f_tsd := (hne17 (i + 12) (by omega)).trans f_tsd
        have f_tss := (hne17 (j0 + 12) (by omega)).trans f_tss
        have f_td : ∀ t, t < 4 → tillAt G ad w16 (i + 14 + 9 * t) (mixD q D2 D1 t) := (fun t hk9 => tillAt_fr (fun j h1 h2 => hne17 j (by omega)) (f_td t hk9))
        have f_tv : ∀ t, t < 4 → tillAt G ad w16 (j0 + 14 + 9 * t) (D2 t) := (fun t hk9 => tillAt_fr (fun j h1 h2 => hne17 j (by omega)) (f_tv t hk9))
        have hfr : ∀ j, ¬ (i ≤ j ∧ j < i + 50) → w16 j = w j := fun j a0 => (hne17 j (by omega)).trans (hfr j a0)
        refine lv_aload_n hx hb dX4_copyFrom_76 rfl (lv_at hl 0 rfl) ?_
        refine lv_aload_n hx hb dX4_copyFrom_77 rfl (lv_at hl 1 rfl) ?_
        refine n_get hx hb hts u_X4 hown hK hP (by omega) f_Ls rfl 5 (by decide) (nT_m wf_X4_38) rfl dX4_copyFrom_78 ?_
        refine n_put hx hb hts u_X4 tyX4 tyX4_ok nmX4 hown hK hJ hP hS (by omega) f_Ld rfl 5 (by decide) (nT_m wf_X4_38) rfl rfl rfl (Nat.le_of_ble_eq_true rfl) dX4_copyFrom_81 (fun w18 H locs f_Ld hne19 hP hS => ?_)
        have f_Ld : w18 i = .inr (4, [.ref (ad (i + 1)), .ref (ad (i + 5)), .ref (ad (i + 9)), .ref (ad (i + 12)), .ref (ad (i + 13)), .int (iI ((tn2 : Nat) : Int)), .int (iI ((ra1 : Nat) : Int)), .int (iI ((rb1 : Nat) : Int)), .int (iI ((st1 : Nat) : Int))]) := f_Ld
        have f_opd := (hne19 (i + 1) (by omega)).trans f_opd
        have f_vpd := (hne19 ((i + 1) + 1) (by omega)).trans f_vpd
        have f_fpd := (hne19 ((i + 1) + 2) (by omega)).trans f_fpd
        have f_lpd := (hne19 ((i + 1) + 3) (by omega)).trans f_lpd
        have f_oqd := (hne19 (i + 5) (by omega)).trans f_oqd
        have f_vqd := (hne19 ((i + 5) + 1) (by omega)).trans f_vqd
        have f_fqd := (hne19 ((i + 5) + 2) (by omega)).trans f_fqd
        have f_lqd := (hne19 ((i + 5) + 3) (by omega)).trans f_lqd
        have f_gd := (hne19 (i + 9) (by omega)).trans f_gd
        have f_gpd := (hne19 ((i + 9) + 1) (by omega)).trans f_gpd
        have f_gtd := (hne19 ((i + 9) + 2) (by omega)).trans f_gtd
        have f_drd := (hne19 (i + 13) (by omega)).trans f_drd
        have f_Ls := (hne19 j0 (by omega)).trans f_Ls
        have f_ops := (hne19 (j0 + 1) (by omega)).trans f_ops
        have f_vps := (hne19 ((j0 + 1) + 1) (by omega)).trans f_vps
        have f_fps := (hne19 ((j0 + 1) + 2) (by omega)).trans f_fps
        have f_lps := (hne19 ((j0 + 1) + 3) (by omega)).trans f_lps
        have f_oqs := (hne19 (j0 + 5) (by omega)).trans f_oqs
        have f_vqs := (hne19 ((j0 + 5) + 1) (by omega)).trans f_vqs
        have f_fqs := (hne19 ((j0 + 5) + 2) (by omega)).trans f_fqs
        have f_lqs := (hne19 ((j0 + 5) + 3) (by omega)).trans f_lqs
        have f_gs := (hne19 (j0 + 9) (by omega)).trans f_gs
        have f_gps := (hne19 ((j0 + 9) + 1) (by omega)).trans f_gps
        have f_gts := (hne19 ((j0 + 9) + 2) (by omega)).trans f_gts
        have f_drs := (hne19 (j0 + 13) (by omega)).trans f_drs
        have f_tsd := (hne19 (i + 12) (by omega)).trans f_tsd
        have f_tss := (hne19 (j0 + 12) (by omega)).trans f_tss
        have f_td : ∀ t, t < 4 → tillAt G ad w18 (i + 14 + 9 * t) (mixD q D2 D1 t) := (fun t hk9 => tillAt_fr (fun j h1 h2 => hne19 j (by omega)) (f_td t hk9))
        have f_tv : ∀ t, t < 4 → tillAt G ad w18 (j0 + 14 + 9 * t) (D2 t) := (fun t hk9 => tillAt_fr (fun j h1 h2 => hne19 j (by omega)) (f_tv t hk9))
        have hfr : ∀ j, ¬ (i ≤ j ∧ j < i + 50) → w18 j = w j := fun j a0 => (hne19 j (by omega)).trans (hfr j a0)
        refine lv_aload_n hx hb dX4_copyFrom_84 rfl (lv_at hl 0 rfl) ?_
        refine lv_aload_n hx hb dX4_copyFrom_85 rfl (lv_at hl 1 rfl) ?_
        refine n_get hx hb hts u_X4 hown hK hP (by omega) f_Ls rfl 6 (by decide) (nT_m wf_X4_42) rfl dX4_copyFrom_86 ?_
        refine n_put hx hb hts u_X4 tyX4 tyX4_ok nmX4 hown hK hJ hP hS (by omega) f_Ld rfl 6 (by decide) (nT_m wf_X4_42) rfl rfl rfl (Nat.le_of_ble_eq_true rfl) dX4_copyFrom_89 (fun w20 H locs f_Ld hne21 hP hS => ?_)
        have f_Ld : w20 i = .inr (4, [.ref (ad (i + 1)), .ref (ad (i + 5)), .ref (ad (i + 9)), .ref (ad (i + 12)), .ref (ad (i + 13)), .int (iI ((tn2 : Nat) : Int)), .int (iI ((ra2 : Nat) : Int)), .int (iI ((rb1 : Nat) : Int)), .int (iI ((st1 : Nat) : Int))]) := f_Ld
        have f_opd := (hne21 (i + 1) (by omega)).trans f_opd
        have f_vpd := (hne21 ((i + 1) + 1) (by omega)).trans f_vpd
        have f_fpd := (hne21 ((i + 1) + 2) (by omega)).trans f_fpd
        have f_lpd := (hne21 ((i + 1) + 3) (by omega)).trans f_lpd
        have f_oqd := (hne21 (i + 5) (by omega)).trans f_oqd
        have f_vqd := (hne21 ((i + 5) + 1) (by omega)).trans f_vqd
        have f_fqd := (hne21 ((i + 5) + 2) (by omega)).trans f_fqd
        have f_lqd := (hne21 ((i + 5) + 3) (by omega)).trans f_lqd
        have f_gd := (hne21 (i + 9) (by omega)).trans f_gd
        have f_gpd := (hne21 ((i + 9) + 1) (by omega)).trans f_gpd
        have f_gtd := (hne21 ((i + 9) + 2) (by omega)).trans f_gtd
        have f_drd := (hne21 (i + 13) (by omega)).trans f_drd
        have f_Ls := (hne21 j0 (by omega)).trans f_Ls
        have f_ops := (hne21 (j0 + 1) (by omega)).trans f_ops
        have f_vps := (hne21 ((j0 + 1) + 1) (by omega)).trans f_vps
        have f_fps := (hne21 ((j0 + 1) + 2) (by omega)).trans f_fps
        have f_lps := (hne21 ((j0 + 1) + 3) (by omega)).trans f_lps
        have f_oqs := (hne21 (j0 + 5) (by omega)).trans f_oqs
        have f_vqs := (hne21 ((j0 + 5) + 1) (by omega)).trans f_vqs
        have f_fqs := (hne21 ((j0 + 5) + 2) (by omega)).trans f_fqs
        have f_lqs := (hne21 ((j0 + 5) + 3) (by omega)).trans f_lqs
        have f_gs := (hne21 (j0 + 9) (by omega)).trans f_gs
        have f_gps := (hne21 ((j0 + 9) + 1) (by omega)).trans f_gps
        have f_gts := (hne21 ((j0 + 9) + 2) (by omega)).trans f_gts
        have f_drs := (hne21 (j0 + 13) (by omega)).trans f_drs
        have f_tsd := (hne21 (i + 12) (by omega)).trans f_tsd
        have f_tss := (hne21 (j0 + 12) (by omega)).trans f_tss
        have f_td : ∀ t, t < 4 → tillAt G ad w20 (i + 14 + 9 * t) (mixD q D2 D1 t) := (fun t hk9 => tillAt_fr (fun j h1 h2 => hne21 j (by omega)) (f_td t hk9))
        have f_tv : ∀ t, t < 4 → tillAt G ad w20 (j0 + 14 + 9 * t) (D2 t) := (fun t hk9 => tillAt_fr (fun j h1 h2 => hne21 j (by omega)) (f_tv t hk9))
        have hfr : ∀ j, ¬ (i ≤ j ∧ j < i + 50) → w20 j = w j := fun j a0 => (hne21 j (by omega)).trans (hfr j a0)
        refine lv_aload_n hx hb dX4_copyFrom_92 rfl (lv_at hl 0 rfl) ?_
        refine lv_aload_n hx hb dX4_copyFrom_93 rfl (lv_at hl 1 rfl) ?_
        refine n_get hx hb hts u_X4 hown hK hP (by omega) f_Ls rfl 7 (by decide) (nT_m wf_X4_45) rfl dX4_copyFrom_94 ?_
        refine n_put hx hb hts u_X4 tyX4 tyX4_ok nmX4 hown hK hJ hP hS (by omega) f_Ld rfl 7 (by decide) (nT_m wf_X4_45) rfl rfl rfl (Nat.le_of_ble_eq_true rfl) dX4_copyFrom_97 (fun w22 H locs f_Ld hne23 hP hS => ?_)
        have f_Ld : w22 i = .inr (4, [.ref (ad (i + 1)), .ref (ad (i + 5)), .ref (ad (i + 9)), .ref (ad (i + 12)), .ref (ad (i + 13)), .int (iI ((tn2 : Nat) : Int)), .int (iI ((ra2 : Nat) : Int)), .int (iI ((rb2 : Nat) : Int)), .int (iI ((st1 : Nat) : Int))]) := f_Ld
        have f_opd := (hne23 (i + 1) (by omega)).trans f_opd
        have f_vpd := (hne23 ((i + 1) + 1) (by omega)).trans f_vpd
        have f_fpd := (hne23 ((i + 1) + 2) (by omega)).trans f_fpd
        have f_lpd := (hne23 ((i + 1) + 3) (by omega)).trans f_lpd
        have f_oqd := (hne23 (i + 5) (by omega)).trans f_oqd
        have f_vqd := (hne23 ((i + 5) + 1) (by omega)).trans f_vqd
        have f_fqd := (hne23 ((i + 5) + 2) (by omega)).trans f_fqd
        have f_lqd := (hne23 ((i + 5) + 3) (by omega)).trans f_lqd
        have f_gd := (hne23 (i + 9) (by omega)).trans f_gd
        have f_gpd := (hne23 ((i + 9) + 1) (by omega)).trans f_gpd
        have f_gtd := (hne23 ((i + 9) + 2) (by omega)).trans f_gtd
        have f_drd := (hne23 (i + 13) (by omega)).trans f_drd
        have f_Ls := (hne23 j0 (by omega)).trans f_Ls
        have f_ops := (hne23 (j0 + 1) (by omega)).trans f_ops
        have f_vps := (hne23 ((j0 + 1) + 1) (by omega)).trans f_vps
        have f_fps := (hne23 ((j0 + 1) + 2) (by omega)).trans f_fps
        have f_lps := (hne23 ((j0 + 1) + 3) (by omega)).trans f_lps
        have f_oqs := (hne23 (j0 + 5) (by omega)).trans f_oqs
        have f_vqs := (hne23 ((j0 + 5) + 1) (by omega)).trans f_vqs
        have f_fqs := (hne23 ((j0 + 5) + 2) (by omega)).trans f_fqs
        have f_lqs := (hne23 ((j0 + 5) + 3) (by omega)).trans f_lqs
        have f_gs := (hne23 (j0 + 9) (by omega)).trans f_gs
        have f_gps := (hne23 ((j0 + 9) + 1) (by omega)).trans f_gps
        have f_gts := (hne23 ((j0 + 9) + 2) (by omega)).trans f_gts
        have f_drs := (hne23 (j0 + 13) (by omega)).trans f_drs
        have f_tsd := (hne23 (i + 12) (by omega)).trans f_tsd
        have f_tss := (hne23 (j0 + 12) (by omega)).trans f_tss
        have f_td : ∀ t, t < 4 → tillAt G ad w22 (i + 14 + 9 * t) (mixD q D2 D1 t) := (fun t hk9 => tillAt_fr (fun j h1 h2 => hne23 j (by omega)) (f_td t hk9))
        have f_tv : ∀ t, t < 4 → tillAt G ad w22 (j0 + 14 + 9 * t) (D2 t) := (fun t hk9 => tillAt_fr (fun j h1 h2 => hne23 j (by omega)) (f_tv t hk9))
        have hfr : ∀ j, ¬ (i ≤ j ∧ j < i + 50) → w22 j = w j := fun j a0 => (hne23 j (by omega)).trans (hfr j a0)
        refine lv_aload_n hx hb dX4_copyFrom_100 rfl (lv_at hl 0 rfl) ?_
        refine lv_aload_n hx hb dX4_copyFrom_101 rfl (lv_at hl 1 rfl) ?_
        refine n_get hx hb hts u_X4 hown hK hP (by omega) f_Ls rfl 8 (by decide) (nT_m wf_X4_48) rfl dX4_copyFrom_102 ?_
        refine n_put hx hb hts u_X4 tyX4 tyX4_ok nmX4 hown hK hJ hP hS (by omega) f_Ld rfl 8 (by decide) (nT_m wf_X4_48) rfl rfl rfl (Nat.le_of_ble_eq_true rfl) dX4_copyFrom_105 (fun w24 H locs f_Ld hne25 hP hS => ?_)
        have f_Ld : w24 i = .inr (4, [.ref (ad (i + 1)), .ref (ad (i + 5)), .ref (ad (i + 9)), .ref (ad (i + 12)), .ref (ad (i + 13)), .int (iI ((tn2 : Nat) : Int)), .int (iI ((ra2 : Nat) : Int)), .int (iI ((rb2 : Nat) : Int)), .int (iI ((st2 : Nat) : Int))]) := f_Ld
        have f_opd := (hne25 (i + 1) (by omega)).trans f_opd
        have f_vpd := (hne25 ((i + 1) + 1) (by omega)).trans f_vpd
        have f_fpd := (hne25 ((i + 1) + 2) (by omega)).trans f_fpd
        have f_lpd := (hne25 ((i + 1) + 3) (by omega)).trans f_lpd
        have f_oqd := (hne25 (i + 5) (by omega)).trans f_oqd
        have f_vqd := (hne25 ((i + 5) + 1) (by omega)).trans f_vqd
        have f_fqd := (hne25 ((i + 5) + 2) (by omega)).trans f_fqd
        have f_lqd := (hne25 ((i + 5) + 3) (by omega)).trans f_lqd
        have f_gd := (hne25 (i + 9) (by omega)).trans f_gd
        have f_gpd := (hne25 ((i + 9) + 1) (by omega)).trans f_gpd
        have f_gtd := (hne25 ((i + 9) + 2) (by omega)).trans f_gtd
        have f_drd := (hne25 (i + 13) (by omega)).trans f_drd
        have f_Ls := (hne25 j0 (by omega)).trans f_Ls
        have f_ops := (hne25 (j0 + 1) (by omega)).trans f_ops
        have f_vps := (hne25 ((j0 + 1) + 1) (by omega)).trans f_vps
        have f_fps := (hne25 ((j0 + 1) + 2) (by omega)).trans f_fps
        have f_lps := (hne25 ((j0 + 1) + 3) (by omega)).trans f_lps
        have f_oqs := (hne25 (j0 + 5) (by omega)).trans f_oqs
        have f_vqs := (hne25 ((j0 + 5) + 1) (by omega)).trans f_vqs
        have f_fqs := (hne25 ((j0 + 5) + 2) (by omega)).trans f_fqs
        have f_lqs := (hne25 ((j0 + 5) + 3) (by omega)).trans f_lqs
        have f_gs := (hne25 (j0 + 9) (by omega)).trans f_gs
        have f_gps := (hne25 ((j0 + 9) + 1) (by omega)).trans f_gps
        have f_gts := (hne25 ((j0 + 9) + 2) (by omega)).trans f_gts
        have f_drs := (hne25 (j0 + 13) (by omega)).trans f_drs
        have f_tsd := (hne25 (i + 12) (by omega)).trans f_tsd
        have f_tss := (hne25 (j0 + 12) (by omega)).trans f_tss
        have f_td : ∀ t, t < 4 → tillAt G ad w24 (i + 14 + 9 * t) (mixD q D2 D1 t) := (fun t hk9 => tillAt_fr (fun j h1 h2 => hne25 j (by omega)) (f_td t hk9))
        have f_tv : ∀ t, t < 4 → tillAt G ad w24 (j0 + 14 + 9 * t) (D2 t) := (fun t hk9 => tillAt_fr (fun j h1 h2 => hne25 j (by omega)) (f_tv t hk9))
        have hfr : ∀ j, ¬ (i ≤ j ∧ j < i + 50) → w24 j = w j := fun j a0 => (hne25 j (by omega)).trans (hfr j a0)
        refine n_vretP hQ hx hb hr hlocks hP hS dX4_copyFrom_108 ?_
        obtain rfl : q = 4 := by omega
        exact ⟨hfr, f_Ld, f_opd, f_vpd, f_fpd, f_lpd, f_oqd, f_vqd, f_fqd, f_lqd, f_gd, f_gpd, f_gtd, f_drd, f_tsd, fun t ht => by have h9 := f_td t ht; rw [show mixD 4 D2 D1 t = D2 t from if_pos ht] at h9; exact h9⟩
      · skip
        refine lv_aload_n hx hb dX4_copyFrom_40 rfl (lv_at hl 0 rfl) ?_
        refine n_get hx hb hts u_X4 hown hK hP (by omega) f_Ld rfl 3 (by decide) (nT_m wf_X4_30) rfl dX4_copyFrom_41 ?_
        refine lv_iload_n hx hb dX4_copyFrom_44 rfl (lv_at hl 2 rfl) ?_
        refine n_aald hx hb hK hP (.object "NewCoins$Till") q (by omega) f_tsd rfl rfl (by omega) (by omega) (by decide) rfl dX4_copyFrom_45 ?_
        refine lv_aload_n hx hb dX4_copyFrom_46 rfl (lv_at hl 1 rfl) ?_
        refine n_get hx hb hts u_X4 hown hK hP (by omega) f_Ls rfl 3 (by decide) (nT_m wf_X4_30) rfl dX4_copyFrom_47 ?_
        refine lv_iload_n hx hb dX4_copyFrom_50 rfl (lv_at hl 2 rfl) ?_
        refine n_aald hx hb hK hP (.object "NewCoins$Till") q (by omega) f_tss rfl rfl (by omega) (by omega) (by decide) rfl dX4_copyFrom_51 ?_
        obtain ⟨g0, g1, g2, g3, g4, g5, g6, g7, g8⟩ := id (f_td q (by omega))
        obtain ⟨s0, s1, s2, s3, s4, s5, s6, s7, s8⟩ := id (f_tv q (by omega))
        refine n_cV (va_runV (As := [.ref (ad (j0 + 14 + 9 * q))]) (rest := []) ⟨hx, hb, hml, hown, hts⟩ (c_X5_copyFrom (i + 14 + 9 * q) (j0 + 14 + 9 * q) _ _ _ _ _ _ _ _ _ _ _ _ _ _ _ _ _ _ _ _ _ _ (by omega) (by omega) g0 g1 g2 g3 g4 g5 g6 g7 g8 s0 s1 s2 s3 s4 s5 s6 s7 s8) (cwV 1 hts (nT_V wl_X4_59 wi_X5_copyFrom ws_X5_copyFrom wn_X5 wc_X5_copyFrom) rfl rfl rfl (by decide +kernel) ⟨Nat.le_of_ble_eq_true rfl, Nat.le_of_ble_eq_true rfl⟩) (nB.preV hK hI hP (by omega) g0 rfl rfl) rfl rfl hl.1 rfl (lv_room (Nat.le_of_ble_eq_true rfl)) dX4_copyFrom_52 ⟨Nat.zero_le _, Nat.zero_le _⟩) hS (fun w26 H locs hq28 hP hS => ?_)
        obtain ⟨hne29, hq0, hq1, hq2, hq3, hq4, hq5, hq6, hq7, hq8⟩ := hq28
        have f_Ld := (hne29 i (by omega) (by omega) (by omega) (by omega) (by omega) (by omega) (by omega) (by omega) (by omega)).trans f_Ld
        have f_opd := (hne29 (i + 1) (by omega) (by omega) (by omega) (by omega) (by omega) (by omega) (by omega) (by omega) (by omega)).trans f_opd
        have f_vpd := (hne29 ((i + 1) + 1) (by omega) (by omega) (by omega) (by omega) (by omega) (by omega) (by omega) (by omega) (by omega)).trans f_vpd
        have f_fpd := (hne29 ((i + 1) + 2) (by omega) (by omega) (by omega) (by omega) (by omega) (by omega) (by omega) (by omega) (by omega)).trans f_fpd
        have f_lpd := (hne29 ((i + 1) + 3) (by omega) (by omega) (by omega) (by omega) (by omega) (by omega) (by omega) (by omega) (by omega)).trans f_lpd
        have f_oqd := (hne29 (i + 5) (by omega) (by omega) (by omega) (by omega) (by omega) (by omega) (by omega) (by omega) (by omega)).trans f_oqd
        have f_vqd := (hne29 ((i + 5) + 1) (by omega) (by omega) (by omega) (by omega) (by omega) (by omega) (by omega) (by omega) (by omega)).trans f_vqd
        have f_fqd := (hne29 ((i + 5) + 2) (by omega) (by omega) (by omega) (by omega) (by omega) (by omega) (by omega) (by omega) (by omega)).trans f_fqd
        have f_lqd := (hne29 ((i + 5) + 3) (by omega) (by omega) (by omega) (by omega) (by omega) (by omega) (by omega) (by omega) (by omega)).trans f_lqd
        have f_gd := (hne29 (i + 9) (by omega) (by omega) (by omega) (by omega) (by omega) (by omega) (by omega) (by omega) (by omega)).trans f_gd
        have f_gpd := (hne29 ((i + 9) + 1) (by omega) (by omega) (by omega) (by omega) (by omega) (by omega) (by omega) (by omega) (by omega)).trans f_gpd
        have f_gtd := (hne29 ((i + 9) + 2) (by omega) (by omega) (by omega) (by omega) (by omega) (by omega) (by omega) (by omega) (by omega)).trans f_gtd
        have f_drd := (hne29 (i + 13) (by omega) (by omega) (by omega) (by omega) (by omega) (by omega) (by omega) (by omega) (by omega)).trans f_drd
        have f_Ls := (hne29 j0 (by omega) (by omega) (by omega) (by omega) (by omega) (by omega) (by omega) (by omega) (by omega)).trans f_Ls
        have f_ops := (hne29 (j0 + 1) (by omega) (by omega) (by omega) (by omega) (by omega) (by omega) (by omega) (by omega) (by omega)).trans f_ops
        have f_vps := (hne29 ((j0 + 1) + 1) (by omega) (by omega) (by omega) (by omega) (by omega) (by omega) (by omega) (by omega) (by omega)).trans f_vps
        have f_fps := (hne29 ((j0 + 1) + 2) (by omega) (by omega) (by omega) (by omega) (by omega) (by omega) (by omega) (by omega) (by omega)).trans f_fps
        have f_lps := (hne29 ((j0 + 1) + 3) (by omega) (by omega) (by omega) (by omega) (by omega) (by omega) (by omega) (by omega) (by omega)).trans f_lps
        have f_oqs := (hne29 (j0 + 5) (by omega) (by omega) (by omega) (by omega) (by omega) (by omega) (by omega) (by omega) (by omega)).trans f_oqs
        have f_vqs := (hne29 ((j0 + 5) + 1) (by omega) (by omega) (by omega) (by omega) (by omega) (by omega) (by omega) (by omega) (by omega)).trans f_vqs
        have f_fqs := (hne29 ((j0 + 5) + 2) (by omega) (by omega) (by omega) (by omega) (by omega) (by omega) (by omega) (by omega) (by omega)).trans f_fqs
        have f_lqs := (hne29 ((j0 + 5) + 3) (by omega) (by omega) (by omega) (by omega) (by omega) (by omega) (by omega) (by omega) (by omega)).trans f_lqs
        have f_gs := (hne29 (j0 + 9) (by omega) (by omega) (by omega) (by omega) (by omega) (by omega) (by omega) (by omega) (by omega)).trans f_gs
        have f_gps := (hne29 ((j0 + 9) + 1) (by omega) (by omega) (by omega) (by omega) (by omega) (by omega) (by omega) (by omega) (by omega)).trans f_gps
        have f_gts := (hne29 ((j0 + 9) + 2) (by omega) (by omega) (by omega) (by omega) (by omega) (by omega) (by omega) (by omega) (by omega)).trans f_gts
        have f_drs := (hne29 (j0 + 13) (by omega) (by omega) (by omega) (by omega) (by omega) (by omega) (by omega) (by omega) (by omega)).trans f_drs
        have f_tsd := (hne29 (i + 12) (by omega) (by omega) (by omega) (by omega) (by omega) (by omega) (by omega) (by omega) (by omega)).trans f_tsd
        have f_tss := (hne29 (j0 + 12) (by omega) (by omega) (by omega) (by omega) (by omega) (by omega) (by omega) (by omega) (by omega)).trans f_tss
        have f_tv : ∀ t, t < 4 → tillAt G ad w26 (j0 + 14 + 9 * t) (D2 t) := (fun t hk9 => tillAt_fr (fun j h1 h2 => hne29 j (by omega) (by omega) (by omega) (by omega) (by omega) (by omega) (by omega) (by omega) (by omega)) (f_tv t hk9))
        have f_td : ∀ t, t < 4 → tillAt G ad w26 (i + 14 + 9 * t) (mixD (q + 1) D2 D1 t) := (mixD_s (fun t h1 h2 j h3 h4 => hne29 j (by omega) (by omega) (by omega) (by omega) (by omega) (by omega) (by omega) (by omega) (by omega)) f_td ⟨hq0, hq1, hq2, hq3, hq4, hq5, hq6, hq7, hq8⟩)
        have hfr : ∀ j, ¬ (i ≤ j ∧ j < i + 50) → w26 j = w j := fun j a0 => (hne29 j (by omega) (by omega) (by omega) (by omega) (by omega) (by omega) (by omega) (by omega) (by omega)).trans (hfr j a0)
        refine lv_iinc (v := iI (((q : Nat) : Int) + 1)) (lv' := [(2, .int (iI (((q : Nat) : Int) + 1))), (0, .ref (ad i)), (1, .ref (ad j0))]) hx hb dX4_copyFrom_55 hl (k := 2) rfl (by first | exact iI_add _ _ | exact (iI_add _ _).trans (congrArg iI (by omega))) (by decide) rfl (fun ls hl => ?_)
        refine lv_goto (tgt := 35) hx hb dX4_copyFrom_58 (by decide) ?_
        exact ih15 (q + 1) _ _ _ _ (by omega) (by omega) hfr f_Ld f_opd f_vpd f_fpd f_lpd f_oqd f_vqd f_fqd f_lqd f_gd f_gpd f_gtd f_drd f_Ls f_ops f_vps f_fps f_lps f_oqs f_vqs f_fqs f_lqs f_gs f_gps f_gts f_drs f_tsd f_tss f_td f_tv hP hS (by first | exact lv_sub hl [1, 2, 0] rfl | exact lv_cast (lv_sub (l' := [(0, .ref (ad i)), (1, .ref (ad j0)), (2, .int (iI (((q : Nat) : Int) + 1)))]) hl [1, 2, 0] rfl) (lc_s (lc_s (lc_i (show ((((q : Nat) : Int) + 1) : Int) = (((q + 1) : Nat) : Int) by omega) rfl))))
  exact lp13 (4 - 0 + 1) 0 _ _ _ _ (Nat.lt_succ_self _) (by omega) hfr f_Ld f_opd f_vpd f_fpd f_lpd f_oqd f_vqd f_fqd f_lqd f_gd f_gpd f_gtd f_drd f_Ls f_ops f_vps f_fps f_lps f_oqs f_vqs f_fqs f_lqs f_gs f_gps f_gts f_drs f_tsd f_tss (by rw [mixD_0]; exact f_td) f_tv hP hS (by first | exact lv_sub hl [1, 2, 0] rfl | exact lv_cast (lv_sub (l' := [(0, .ref (ad i)), (1, .ref (ad j0)), (2, .int (iI 0))]) hl [1, 2, 0] rfl) (lc_s (lc_s (lc_i (show (0 : Int) = ((0 : Nat) : Int) by omega) rfl))))
