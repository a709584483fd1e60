set_option maxHeartbeats 4000000 in
set_option maxRecDepth 100000 in
theorem c_X1_init {l : Launch} {G : nG} {ad : Nat → Nat} {w : Nat → va_E} (ab i : Nat) (hE : ad = nad ab) (f_o : w i = .inr (1, [.int (iI 0), .null, .null, .null])) : Met l yX1_init wsX1_init ({ frames := 1, cells := 3, slots := 2017, locals := 23 }) (va_Pc [.ref (ad i)] (nBo G ab (i + 1) ad w)) (nPn G ab (i + 1) 3 ad (fun u => (∀ j, ¬ (i ≤ j) → u j = w j) ∧ (coinAt G ad u i 0 (fun _ => 0) (fun _ => 0) (va_up (fillF (fun _ => 0) (-1) 2001) 0 0)))) 3 2017 (nF ab) := by
  refine n_entN (cc := cX1_init) (maxL := 1) (ret := (none : Option Jvm.ClassFile.FieldType)) (by decide) rfl (Nat.le_of_ble_eq_true rfl) ?_
  intro p e s m below meth cd hx hb hr hml hlocks hts hown hnm hsz hP hK hO Q hQ ls hl
  have hown : s.vm.findClass RX1 = some m.cls := hown
  have hS : va_S (nF ab) s.heap s.heap [] := va_S.rf
  have hfr : ∀ j, ¬ (i ≤ j) → w j = w j := fun _ _ => rfl
  have hl : lv_has ls 1 [(0, .ref (ad i))] := hl
  refine lv_aload_n hx hb dX1_init_0 rfl (lv_at hl 0 rfl) ?_
  refine W.objInit hx hb hown (hts _ (nT_m wl_X1_3)) (hts _ (nT_m wi_objectInit)) (hts _ (nT_m wc_objectInit)) rfl (hl.1.trans hml.symm) rfl dX1_init_1 (Nat.le_of_ble_eq_true rfl) (Nat.le_of_ble_eq_true rfl) ?_
  refine lv_aload_n hx hb dX1_init_4 rfl (lv_at hl 0 rfl) ?_
  refine n_iconst hx hb dX1_init_5 ?_
  have hJ := nad_J hE (i + 1)
  refine n_put hx hb hts u_X1 tyX1 tyX1_ok nmX1 hown hK hJ hP hS (by omega) f_o rfl 0 (by decide) (nT_m wf_X1_9) rfl rfl rfl (Nat.le_of_ble_eq_true rfl) dX1_init_6 (fun w1 H locs f_o hne2 hP hS => ?_)
  have f_o : w1 i = .inr (1, [.int (iI 0), .null, .null, .null]) := f_o
  have hfr : ∀ j, ¬ (i ≤ j) → w1 j = w j := fun j a0 => (hne2 j (by omega)).trans (hfr j a0)
  refine lv_aload_n hx hb dX1_init_9 rfl (lv_at hl 0 rfl) ?_
  refine n_bipush hx hb dX1_init_10 (by decide) ?_
  refine n_newa (atype := .int) (n := 8) (av := .inl (fun _ => iI 0)) hE hx hb (hts _ (nT_m wa_int)) rfl (fun C h9 => by cases h9) 0 rfl hK hsz (by omega) hP hS rfl (by decide) (fun cA => by rw [vp_cell_i]; rfl) (by decide) (by show 0 + 1 ≤ 3; omega) (by show 0 + 8 ≤ 2017; omega) dX1_init_12 (fun w3 H f_v hne4 hP hS => ?_)
  have f_v : w3 (i + 1) = aI G 8 (fun _ => 0) := f_v
  have f_o := (hne4 i (by omega)).trans f_o
  have hfr : ∀ j, ¬ (i ≤ j) → w3 j = w j := fun j a0 => (hne4 j (by omega)).trans (hfr j a0)
  have hP : va_P G.1 vwCl (nL (i + 2) ad w3) H := hP
  refine W.widen (k := 1) (n := 8) (by omega) (by omega) ?_
  have hJ := nad_J hE (i + 2)
  refine n_putF hx hb hts u_X1 tyX1 tyX1_ok nmX1 hown hK hJ hP hS (by omega) f_o rfl 1 (by decide) (nT_m wf_X1_15) rfl hnm rfl rfl rfl (Nat.le_of_ble_eq_true rfl) dX1_init_14 (fun w5 H locs f_o hne6 hP hS => ?_)
  have f_o : w5 i = .inr (1, [.int (iI 0), .ref (ad (i + 1)), .null, .null]) := f_o
  have f_v := (hne6 (i + 1) (by omega)).trans f_v
  have hfr : ∀ j, ¬ (i ≤ j) → w5 j = w j := fun j a0 => (hne6 j (by omega)).trans (hfr j a0)
  refine lv_aload_n hx hb dX1_init_17 rfl (lv_at hl 0 rfl) ?_
  refine n_bipush hx hb dX1_init_18 (by decide) ?_
  refine n_newa (atype := .int) (n := 8) (av := .inl (fun _ => iI 0)) hE hx hb (hts _ (nT_m wa_int)) rfl (fun C h9 => by cases h9) 0 rfl hK hsz (by omega) hP hS rfl (by decide) (fun cA => by rw [vp_cell_i]; rfl) (by decide) (by show 1 + 1 ≤ 3; omega) (by show 8 + 8 ≤ 2017; omega) dX1_init_20 (fun w7 H f_f hne8 hP hS => ?_)
  have f_f : w7 (i + 2) = aI G 8 (fun _ => 0) := f_f
  have f_o := (hne8 i (by omega)).trans f_o
  have f_v := (hne8 (i + 1) (by omega)).trans f_v
  have hfr : ∀ j, ¬ (i ≤ j) → w7 j = w j := fun j a0 => (hne8 j (by omega)).trans (hfr j a0)
  have hP : va_P G.1 vwCl (nL (i + 3) ad w7) H := hP
  refine W.widen (k := 2) (n := 16) (by omega) (by omega) ?_
  have hJ := nad_J hE (i + 3)
  refine n_putF hx hb hts u_X1 tyX1 tyX1_ok nmX1 hown hK hJ hP hS (by omega) f_o rfl 2 (by decide) (nT_m wf_X1_19) rfl hnm rfl rfl rfl (Nat.le_of_ble_eq_true rfl) dX1_init_22 (fun w9 H locs f_o hne10 hP hS => ?_)
  have f_o : w9 i = .inr (1, [.int (iI 0), .ref (ad (i + 1)), .ref (ad (i + 2)), .null]) := f_o
  have f_v := (hne10 (i + 1) (by omega)).trans f_v
  have f_f := (hne10 (i + 2) (by omega)).trans f_f
  have hfr : ∀ j, ¬ (i ≤ j) → w9 j = w j := fun j a0 => (hne10 j (by omega)).trans (hfr j a0)
  refine lv_aload_n hx hb dX1_init_25 rfl (lv_at hl 0 rfl) ?_
  refine n_sipush hx hb dX1_init_26 (by decide) ?_
  refine n_newa (atype := .int) (n := 2001) (av := .inl (fun _ => iI 0)) hE hx hb (hts _ (nT_m wa_int)) rfl (fun C h9 => by cases h9) 0 rfl hK hsz (by omega) hP hS rfl (by decide) (fun cA => by rw [vp_cell_i]; rfl) (by decide) (by show 2 + 1 ≤ 3; omega) (by show 16 + 2001 ≤ 2017; omega) dX1_init_29 (fun w11 H f_l hne12 hP hS => ?_)
  have f_l : w11 (i + 3) = aI G 2001 (fun _ => 0) := f_l
  have f_o := (hne12 i (by omega)).trans f_o
  have f_v := (hne12 (i + 1) (by omega)).trans f_v
  have f_f := (hne12 (i + 2) (by omega)).trans f_f
  have hfr : ∀ j, ¬ (i ≤ j) → w11 j = w j := fun j a0 => (hne12 j (by omega)).trans (hfr j a0)
  have hP : va_P G.1 vwCl (nL (i + 4) ad w11) H := hP
  refine W.widen (k := 3) (n := 2017) (by omega) (by omega) ?_
  have hJ := nad_J hE (i + 4)
  refine n_putF hx hb hts u_X1 tyX1 tyX1_ok nmX1 hown hK hJ hP hS (by omega) f_o rfl 3 (by decide) (nT_m wf_X1_22) rfl hnm rfl rfl rfl (Nat.le_of_ble_eq_true rfl) dX1_init_31 (fun w13 H locs f_o hne14 hP hS => ?_)
  have f_o : w13 i = .inr (1, [.int (iI 0), .ref (ad (i + 1)), .ref (ad (i + 2)), .ref (ad (i + 3))]) := f_o
  have f_v := (hne14 (i + 1) (by omega)).trans f_v
  have f_f := (hne14 (i + 2) (by omega)).trans f_f
  have f_l := (hne14 (i + 3) (by omega)).trans f_l
  have hfr : ∀ j, ¬ (i ≤ j) → w13 j = w j := fun j a0 => (hne14 j (by omega)).trans (hfr j a0)
  refine lv_aload_n hx hb dX1_init_34 rfl (lv_at hl 0 rfl) ?_
  refine n_get hx hb hts u_X1 hown hK hP (by omega) f_o rfl 3 (by decide) (nT_m wf_X1_22) rfl dX1_init_35 ?_
  refine n_iconst hx hb dX1_init_38 ?_
  refine n_sz hE hsz (by omega) (by omega) hP (fun hH => ?_)
  have hI := nad_I hE (i + 4)
  refine n_cVF hE hH (va_runS (As := [.ref (ad (i + 3)), .int (iI (-1))]) (rest := []) ⟨hx, hb, hml, hown, hts⟩ (c_J7_fill_53178 (i + 3) 2001 (fun _ => 0) (-1) (by omega) (by decide) f_l) (va_cwS 2 hts (nT_S wl_X1_25 wt_J7_fill_53178 wn_J7 wc_J7_fill_53178) rfl rfl rfl (by decide +kernel) ⟨Nat.le_of_ble_eq_true rfl, Nat.le_of_ble_eq_true rfl⟩) (nB.pre hK hI hP) rfl rfl hl.1 rfl (lv_room (Nat.le_of_ble_eq_true rfl)) dX1_init_39 ⟨(by show 3 + 0 ≤ 3; omega), (by show 2017 + 0 ≤ 2017; omega)⟩) hS (fun w15 H locs hq16 hP hS => ?_)
  obtain ⟨hne17, hp_l⟩ := hq16
  have f_l : w15 (i + 3) = aI G 2001 (fillF (fun _ => 0) (-1) 2001) := hp_l
  have f_o := (hne17 i (by omega)).trans f_o
  have f_v := (hne17 (i + 1) (by omega)).trans f_v
  have f_f := (hne17 (i + 2) (by omega)).trans f_f
  have hfr : ∀ j, ¬ (i ≤ j) → w15 j = w j := fun j a0 => (hne17 j (by omega)).trans (hfr j a0)
  refine lv_aload_n hx hb dX1_init_42 rfl (lv_at hl 0 rfl) ?_
  refine n_get hx hb hts u_X1 hown hK hP (by omega) f_o rfl 3 (by decide) (nT_m wf_X1_22) rfl dX1_init_43 ?_
  refine n_iconst hx hb dX1_init_46 ?_
  refine n_iconst hx hb dX1_init_47 ?_
  have hJ := nad_J hE (i + 4)
  refine n_iast hx hb hK hJ hP hS 0 (by omega) f_l (by omega) (by omega) (by decide) dX1_init_48 (fun w18 H locs f_l hne19 hP hS => ?_)
  have f_o := (hne19 i (by omega)).trans f_o
  have f_v := (hne19 (i + 1) (by omega)).trans f_v
  have f_f := (hne19 (i + 2) (by omega)).trans f_f
  have hfr : ∀ j, ¬ (i ≤ j) → w18 j = w j := fun j a0 => (hne19 j (by omega)).trans (hfr j a0)
  refine n_vretN (K := 3) hQ hx hb hr hlocks hP hS dX1_init_49 ?_
  exact ⟨hfr, f_o, f_v, f_f, f_l⟩
set_option maxHeartbeats 4000000 in
set_option maxRecDepth 100000 in
theorem c_X2_init {l : Launch} {G : nG} {ad : Nat → Nat} {w : Nat → va_E} (ab i : Nat) (hE : ad = nad ab) (f_o : w i = .inr (2, [.int (iI 0), .null, .null, .null, .null])) : Met l yX2_init wsX2_init ({ frames := 1, cells := 4, slots := 80, locals := 12 }) (va_Pc [.ref (ad i)] (nBo G ab (i + 1) ad w)) (nPn G ab (i + 1) 4 ad (fun u => (∀ j, ¬ (i ≤ j) → u j = w j) ∧ (u i = .inr (2, [.int (iI ((0 : Nat) : Int)), .ref (ad (i + 1)), .ref (ad (i + 2)), .ref (ad (i + 3)), .ref (ad (i + 4))])) ∧ (u (i + 1) = aI G 20 (fun q => (((fun _ => 0 : Nat → Nat) q : Nat) : Int))) ∧ (u (i + 2) = aI G 20 (fun q => (((fun _ => 0 : Nat → Nat) q : Nat) : Int))) ∧ (u (i + 3) = aI G 20 (fun q => (((fun _ => 0 : Nat → Nat) q : Nat) : Int))) ∧ (u (i + 4) = aI G 20 (fun q => (((fun _ => 0 : Nat → Nat) q : Nat) : Int))))) 4 80 (nF ab) := by
  refine n_entN (cc := cX2_init) (maxL := 1) (ret := (none : Option Jvm.ClassFile.FieldType)) (by decide) rfl (Nat.le_of_ble_eq_true rfl) ?_
  intro p e s m below meth cd hx hb hr hml hlocks hts hown hnm hsz hP hK hO Q hQ ls hl
  have hown : s.vm.findClass RX2 = some m.cls := hown
  have hS : va_S (nF ab) s.heap s.heap [] := va_S.rf
  have hfr : ∀ j, ¬ (i ≤ j) → w j = w j := fun _ _ => rfl
  have hl : lv_has ls 1 [(0, .ref (ad i))] := hl
  refine lv_aload_n hx hb dX2_init_0 rfl (lv_at hl 0 rfl) ?_
  refine W.objInit hx hb hown (hts _ (nT_m wl_X2_3)) (hts _ (nT_m wi_objectInit)) (hts _ (nT_m wc_objectInit)) rfl (hl.1.trans hml.symm) rfl dX2_init_1 (Nat.le_of_ble_eq_true rfl) (Nat.le_of_ble_eq_true rfl) ?_
  refine lv_aload_n hx hb dX2_init_4 rfl (lv_at hl 0 rfl) ?_
  refine n_iconst hx hb dX2_init_5 ?_
  have hJ := nad_J hE (i + 1)
  refine n_put hx hb hts u_X2 tyX2 tyX2_ok nmX2 hown hK hJ hP hS (by omega) f_o rfl 0 (by decide) (nT_m wf_X2_9) rfl rfl rfl (Nat.le_of_ble_eq_true rfl) dX2_init_6 (fun w1 H locs f_o hne2 hP hS => ?_)
  have f_o : w1 i = .inr (2, [.int (iI 0), .null, .null, .null, .null]) := f_o
  have hfr : ∀ j, ¬ (i ≤ j) → w1 j = w j := fun j a0 => (hne2 j (by omega)).trans (hfr j a0)
  refine lv_aload_n hx hb dX2_init_9 rfl (lv_at hl 0 rfl) ?_
  refine n_bipush hx hb dX2_init_10 (by decide) ?_
  refine n_newa (atype := .int) (n := 20) (av := .inl (fun _ => iI 0)) hE hx hb (hts _ (nT_m wa_int)) rfl (fun C h9 => by cases h9) 0 rfl hK hsz (by omega) hP hS rfl (by decide) (fun cA => by rw [vp_cell_i]; rfl) (by decide) (by show 0 + 1 ≤ 4; omega) (by show 0 + 20 ≤ 80; omega) dX2_init_12 (fun w3 H f_a hne4 hP hS => ?_)
  have f_a : w3 (i + 1) = aI G 20 (fun _ => 0) := f_a
  have f_o := (hne4 i (by omega)).trans f_o
  have hfr : ∀ j, ¬ (i ≤ j) → w3 j = w j := fun j a0 => (hne4 j (by omega)).trans (hfr j a0)
  have hP : va_P G.1 vwCl (nL (i + 2) ad w3) H := hP
  refine W.widen (k := 1) (n := 20) (by omega) (by omega) ?_
  have hJ := nad_J hE (i + 2)
  refine n_putF hx hb hts u_X2 tyX2 tyX2_ok nmX2 hown hK hJ hP hS (by omega) f_o rfl 1 (by decide) (nT_m wf_X2_15) rfl hnm rfl rfl rfl (Nat.le_of_ble_eq_true rfl) dX2_init_14 (fun w5 H locs f_o hne6 hP hS => ?_)
  have f_o : w5 i = .inr (2, [.int (iI 0), .ref (ad (i + 1)), .null, .null, .null]) := f_o
  have f_a := (hne6 (i + 1) (by omega)).trans f_a
  have hfr : ∀ j, ¬ (i ≤ j) → w5 j = w j := fun j a0 => (hne6 j (by omega)).trans (hfr j a0)
  refine lv_aload_n hx hb dX2_init_17 rfl (lv_at hl 0 rfl) ?_
  refine n_bipush hx hb dX2_init_18 (by decide) ?_
  refine n_newa (atype := .int) (n := 20) (av := .inl (fun _ => iI 0)) hE hx hb (hts _ (nT_m wa_int)) rfl (fun C h9 => by cases h9) 0 rfl hK hsz (by omega) hP hS rfl (by decide) (fun cA => by rw [vp_cell_i]; rfl) (by decide) (by show 1 + 1 ≤ 4; omega) (by show 20 + 20 ≤ 80; omega) dX2_init_20 (fun w7 H f_b hne8 hP hS => ?_)
  have f_b : w7 (i + 2) = aI G 20 (fun _ => 0) := f_b
  have f_o := (hne8 i (by omega)).trans f_o
  have f_a := (hne8 (i + 1) (by omega)).trans f_a
  have hfr : ∀ j, ¬ (i ≤ j) → w7 j = w j := fun j a0 => (hne8 j (by omega)).trans (hfr j a0)
  have hP : va_P G.1 vwCl (nL (i + 3) ad w7) H := hP
  refine W.widen (k := 2) (n := 40) (by omega) (by omega) ?_
  have hJ := nad_J hE (i + 3)
  refine n_putF hx hb hts u_X2 tyX2 tyX2_ok nmX2 hown hK hJ hP hS (by omega) f_o rfl 2 (by decide) (nT_m wf_X2_19) rfl hnm rfl rfl rfl (Nat.le_of_ble_eq_true rfl) dX2_init_22 (fun w9 H locs f_o hne10 hP hS => ?_)
  have f_o : w9 i = .inr (2, [.int (iI 0), .ref (ad (i + 1)), .ref (ad (i + 2)), .null, .null]) := f_o
  have f_a := (hne10 (i + 1) (by omega)).trans f_a
  have f_b := (hne10 (i + 2) (by omega)).trans f_b
  have hfr : ∀ j, ¬ (i ≤ j) → w9 j = w j := fun j a0 => (hne10 j (by omega)).trans (hfr j a0)
  refine lv_aload_n hx hb dX2_init_25 rfl (lv_at hl 0 rfl) ?_
  refine n_bipush hx hb dX2_init_26 (by decide) ?_
  refine n_newa (atype := .int) (n := 20) (av := .inl (fun _ => iI 0)) hE hx hb (hts _ (nT_m wa_int)) rfl (fun C h9 => by cases h9) 0 rfl hK hsz (by omega) hP hS rfl (by decide) (fun cA => by rw [vp_cell_i]; rfl) (by decide) (by show 2 + 1 ≤ 4; omega) (by show 40 + 20 ≤ 80; omega) dX2_init_28 (fun w11 H f_c hne12 hP hS => ?_)
  have f_c : w11 (i + 3) = aI G 20 (fun _ => 0) := f_c
  have f_o := (hne12 i (by omega)).trans f_o
  have f_a := (hne12 (i + 1) (by omega)).trans f_a
  have f_b := (hne12 (i + 2) (by omega)).trans f_b
  have hfr : ∀ j, ¬ (i ≤ j) → w11 j = w j := fun j a0 => (hne12 j (by omega)).trans (hfr j a0)
  have hP : va_P G.1 vwCl (nL (i + 4) ad w11) H := hP
  refine W.widen (k := 3) (n := 60) (by omega) (by omega) ?_
  have hJ := nad_J hE (i + 4)
  refine n_putF hx hb hts u_X2 tyX2 tyX2_ok nmX2 hown hK hJ hP hS (by omega) f_o rfl 3 (by decide) (nT_m wf_X2_22) rfl hnm rfl rfl rfl (Nat.le_of_ble_eq_true rfl) dX2_init_30 (fun w13 H locs f_o hne14 hP hS => ?_)
  have f_o : w13 i = .inr (2, [.int (iI 0), .ref (ad (i + 1)), .ref (ad (i + 2)), .ref (ad (i + 3)), .null]) := f_o
  have f_a := (hne14 (i + 1) (by omega)).trans f_a
  have f_b := (hne14 (i + 2) (by omega)).trans f_b
  have f_c := (hne14 (i + 3) (by omega)).trans f_c
  have hfr : ∀ j, ¬ (i ≤ j) → w13 j = w j := fun j a0 => (hne14 j (by omega)).trans (hfr j a0)
  refine lv_aload_n hx hb dX2_init_33 rfl (lv_at hl 0 rfl) ?_
  refine n_bipush hx hb dX2_init_34 (by decide) ?_
  refine n_newa (atype := .int) (n := 20) (av := .inl (fun _ => iI 0)) hE hx hb (hts _ (nT_m wa_int)) rfl (fun C h9 => by cases h9) 0 rfl hK hsz (by omega) hP hS rfl (by decide) (fun cA => by rw [vp_cell_i]; rfl) (by decide) (by show 3 + 1 ≤ 4; omega) (by show 60 + 20 ≤ 80; omega) dX2_init_36 (fun w15 H f_d hne16 hP hS => ?_)
  have f_d : w15 (i + 4) = aI G 20 (fun _ => 0) := f_d
  have f_o := (hne16 i (by omega)).trans f_o
  have f_a := (hne16 (i + 1) (by omega)).trans f_a
  have f_b := (hne16 (i + 2) (by omega)).trans f_b
  have f_c := (hne16 (i + 3) (by omega)).trans f_c
  have hfr : ∀ j, ¬ (i ≤ j) → w15 j = w j := fun j a0 => (hne16 j (by omega)).trans (hfr j a0)
  have hP : va_P G.1 vwCl (nL (i + 5) ad w15) H := hP
  refine W.widen (k := 4) (n := 80) (by omega) (by omega) ?_
  have hJ := nad_J hE (i + 5)
  refine n_putF hx hb hts u_X2 tyX2 tyX2_ok nmX2 hown hK hJ hP hS (by omega) f_o rfl 4 (by decide) (nT_m wf_X2_25) rfl hnm rfl rfl rfl (Nat.le_of_ble_eq_true rfl) dX2_init_38 (fun w17 H locs f_o hne18 hP hS => ?_)
  have f_o : w17 i = .inr (2, [.int (iI 0), .ref (ad (i + 1)), .ref (ad (i + 2)), .ref (ad (i + 3)), .ref (ad (i + 4))]) := f_o
  have f_a := (hne18 (i + 1) (by omega)).trans f_a
  have f_b := (hne18 (i + 2) (by omega)).trans f_b
  have f_c := (hne18 (i + 3) (by omega)).trans f_c
  have f_d := (hne18 (i + 4) (by omega)).trans f_d
  have hfr : ∀ j, ¬ (i ≤ j) → w17 j = w j := fun j a0 => (hne18 j (by omega)).trans (hfr j a0)
  refine n_vretN (K := 4) hQ hx hb hr hlocks hP hS dX2_init_41 ?_
  exact ⟨hfr, f_o, f_a, f_b, f_c, f_d⟩
set_option maxHeartbeats 4000000 in
set_option maxRecDepth 100000 in
theorem c_X3_init {l : Launch} {G : nG} {ad : Nat → Nat} {w : Nat → va_E} (ab i : Nat) (hE : ad = nad ab) (f_o : w i = .inr (3, [.int (iI 0), .null, .null])) : Met l yX3_init wsX3_init ({ frames := 1, cells := 2, slots := 28, locals := 12 }) (va_Pc [.ref (ad i)] (nBo G ab (i + 1) ad w)) (nPn G ab (i + 1) 2 ad (fun u => (∀ j, ¬ (i ≤ j) → u j = w j) ∧ (goodAt G ad u i 0 (fun _ => 0) (fun _ => 0)))) 2 28 (nF ab) := by
  refine n_entN (cc := cX3_init) (maxL := 1) (ret := (none : Option Jvm.ClassFile.FieldType)) (by decide) rfl (Nat.le_of_ble_eq_true rfl) ?_
  intro p e s m below meth cd hx hb hr hml hlocks hts hown hnm hsz hP hK hO Q hQ ls hl
  have hown : s.vm.findClass RX3 = some m.cls := hown
  have hS : va_S (nF ab) s.heap s.heap [] := va_S.rf
  have hfr : ∀ j, ¬ (i ≤ j) → w j = w j := fun _ _ => rfl
  have hl : lv_has ls 1 [(0, .ref (ad i))] := hl
  refine lv_aload_n hx hb dX3_init_0 rfl (lv_at hl 0 rfl) ?_
  refine W.objInit hx hb hown (hts _ (nT_m wl_X3_3)) (hts _ (nT_m wi_objectInit)) (hts _ (nT_m wc_objectInit)) rfl (hl.1.trans hml.symm) rfl dX3_init_1 (Nat.le_of_ble_eq_true rfl) (Nat.le_of_ble_eq_true rfl) ?_
  refine lv_aload_n hx hb dX3_init_4 rfl (lv_at hl 0 rfl) ?_
  refine n_iconst hx hb dX3_init_5 ?_
  have hJ := nad_J hE (i + 1)
  refine n_put hx hb hts u_X3 tyX3 tyX3_ok nmX3 hown hK hJ hP hS (by omega) f_o rfl 0 (by decide) (nT_m wf_X3_9) rfl rfl rfl (Nat.le_of_ble_eq_true rfl) dX3_init_6 (fun w1 H locs f_o hne2 hP hS => ?_)
  have f_o : w1 i = .inr (3, [.int (iI 0), .null, .null]) := f_o
  have hfr : ∀ j, ¬ (i ≤ j) → w1 j = w j := fun j a0 => (hne2 j (by omega)).trans (hfr j a0)
  refine lv_aload_n hx hb dX3_init_9 rfl (lv_at hl 0 rfl) ?_
  refine n_bipush hx hb dX3_init_10 (by decide) ?_
  refine n_newa (atype := .int) (n := 14) (av := .inl (fun _ => iI 0)) hE hx hb (hts _ (nT_m wa_int)) rfl (fun C h9 => by cases h9) 0 rfl hK hsz (by omega) hP hS rfl (by decide) (fun cA => by rw [vp_cell_i]; rfl) (by decide) (by show 0 + 1 ≤ 2; omega) (by show 0 + 14 ≤ 28; omega) dX3_init_12 (fun w3 H f_a hne4 hP hS => ?_)
  have f_a : w3 (i + 1) = aI G 14 (fun _ => 0) := f_a
  have f_o := (hne4 i (by omega)).trans f_o
  have hfr : ∀ j, ¬ (i ≤ j) → w3 j = w j := fun j a0 => (hne4 j (by omega)).trans (hfr j a0)
  have hP : va_P G.1 vwCl (nL (i + 2) ad w3) H := hP
  refine W.widen (k := 1) (n := 14) (by omega) (by omega) ?_
  have hJ := nad_J hE (i + 2)
  refine n_putF hx hb hts u_X3 tyX3 tyX3_ok nmX3 hown hK hJ hP hS (by omega) f_o rfl 1 (by decide) (nT_m wf_X3_15) rfl hnm rfl rfl rfl (Nat.le_of_ble_eq_true rfl) dX3_init_14 (fun w5 H locs f_o hne6 hP hS => ?_)
  have f_o : w5 i = .inr (3, [.int (iI 0), .ref (ad (i + 1)), .null]) := f_o
  have f_a := (hne6 (i + 1) (by omega)).trans f_a
  have hfr : ∀ j, ¬ (i ≤ j) → w5 j = w j := fun j a0 => (hne6 j (by omega)).trans (hfr j a0)
  refine lv_aload_n hx hb dX3_init_17 rfl (lv_at hl 0 rfl) ?_
  refine n_bipush hx hb dX3_init_18 (by decide) ?_
  refine n_newa (atype := .int) (n := 14) (av := .inl (fun _ => iI 0)) hE hx hb (hts _ (nT_m wa_int)) rfl (fun C h9 => by cases h9) 0 rfl hK hsz (by omega) hP hS rfl (by decide) (fun cA => by rw [vp_cell_i]; rfl) (by decide) (by show 1 + 1 ≤ 2; omega) (by show 14 + 14 ≤ 28; omega) dX3_init_20 (fun w7 H f_b hne8 hP hS => ?_)
  have f_b : w7 (i + 2) = aI G 14 (fun _ => 0) := f_b
  have f_o := (hne8 i (by omega)).trans f_o
  have f_a := (hne8 (i + 1) (by omega)).trans f_a
  have hfr : ∀ j, ¬ (i ≤ j) → w7 j = w j := fun j a0 => (hne8 j (by omega)).trans (hfr j a0)
  have hP : va_P G.1 vwCl (nL (i + 3) ad w7) H := hP
  refine W.widen (k := 2) (n := 28) (by omega) (by omega) ?_
  have hJ := nad_J hE (i + 3)
  refine n_putF hx hb hts u_X3 tyX3 tyX3_ok nmX3 hown hK hJ hP hS (by omega) f_o rfl 2 (by decide) (nT_m wf_X3_19) rfl hnm rfl rfl rfl (Nat.le_of_ble_eq_true rfl) dX3_init_22 (fun w9 H locs f_o hne10 hP hS => ?_)
  have f_o : w9 i = .inr (3, [.int (iI 0), .ref (ad (i + 1)), .ref (ad (i + 2))]) := f_o
  have f_a := (hne10 (i + 1) (by omega)).trans f_a
  have f_b := (hne10 (i + 2) (by omega)).trans f_b
  have hfr : ∀ j, ¬ (i ≤ j) → w9 j = w j := fun j a0 => (hne10 j (by omega)).trans (hfr j a0)
  refine n_vretN (K := 2) hQ hx hb hr hlocks hP hS dX3_init_25 ?_
  exact ⟨hfr, f_o, f_a, f_b⟩
set_option maxHeartbeats 4000000 in
set_option maxRecDepth 100000 in
theorem c_X5_init {l : Launch} {G : nG} {ad : Nat → Nat} {w : Nat → va_E} (ab i : Nat) (hE : ad = nad ab) (f_o : w i = .inr (5, [.null, .null, .null, .null, .int (iI 0), .long (jI 0), .long (jI 0)])) : Met l yX5_init wsX5_init ({ frames := 2, cells := 8, slots := 109, locals := 32 }) (va_Pc [.ref (ad i)] (nBo G ab (i + 1) ad w)) (nPn G ab (i + 1) 8 ad (fun u => (∀ j, ¬ (i ≤ j) → u j = w j) ∧ (tillAt G ad u i (fun _ _ => 0)))) 8 109 (nF ab) := by
  refine n_entN (cc := cX5_init) (maxL := 1) (ret := (none : Option Jvm.ClassFile.FieldType)) (by decide) rfl (Nat.le_of_ble_eq_true rfl) ?_
  intro p e s m below meth cd hx hb hr hml hlocks hts hown hnm hsz hP hK hO Q hQ ls hl
  have hown : s.vm.findClass RX5 = some m.cls := hown
  have hS : va_S (nF ab) s.heap s.heap [] := va_S.rf
  have hfr : ∀ j, ¬ (i ≤ j) → w j = w j := fun _ _ => rfl
  have hl : lv_has ls 1 [(0, .ref (ad i))] := hl
  refine lv_aload_n hx hb dX5_init_0 rfl (lv_at hl 0 rfl) ?_
  refine W.objInit hx hb hown (hts _ (nT_m wl_X5_3)) (hts _ (nT_m wi_objectInit)) (hts _ (nT_m wc_objectInit)) rfl (hl.1.trans hml.symm) rfl dX5_init_1 (Nat.le_of_ble_eq_true rfl) (Nat.le_of_ble_eq_true rfl) ?_
  refine lv_aload_n hx hb dX5_init_4 rfl (lv_at hl 0 rfl) ?_
  refine n_bipush hx hb dX5_init_5 (by decide) ?_
  refine n_newa (atype := .int) (n := 8) (av := .inl (fun _ => iI 0)) hE hx hb (hts _ (nT_m wa_int)) rfl (fun C h9 => by cases h9) 0 rfl hK hsz (by omega) hP hS rfl (by decide) (fun cA => by rw [vp_cell_i]; rfl) (by decide) (by show 0 + 1 ≤ 8; omega) (by show 0 + 8 ≤ 109; omega) dX5_init_7 (fun w1 H f_a hne2 hP hS => ?_)
  have f_a : w1 (i + 1) = aI G 8 (fun _ => 0) := f_a
  have f_o := (hne2 i (by omega)).trans f_o
  have hfr : ∀ j, ¬ (i ≤ j) → w1 j = w j := fun j a0 => (hne2 j (by omega)).trans (hfr j a0)
  have hP : va_P G.1 vwCl (nL (i + 2) ad w1) H := hP
  refine W.widen (k := 1) (n := 8) (by omega) (by omega) ?_
  have hJ := nad_J hE (i + 2)
  refine n_putF hx hb hts u_X5 tyX5 tyX5_ok nmX5 hown hK hJ hP hS (by omega) f_o rfl 0 (by decide) (nT_m wf_X5_9) rfl hnm rfl rfl rfl (Nat.le_of_ble_eq_true rfl) dX5_init_9 (fun w3 H locs f_o hne4 hP hS => ?_)
  have f_o : w3 i = .inr (5, [.ref (ad (i + 1)), .null, .null, .null, .int (iI 0), .long (jI 0), .long (jI 0)]) := f_o
  have f_a := (hne4 (i + 1) (by omega)).trans f_a
  have hfr : ∀ j, ¬ (i ≤ j) → w3 j = w j := fun j a0 => (hne4 j (by omega)).trans (hfr j a0)
  refine lv_aload_n hx hb dX5_init_12 rfl (lv_at hl 0 rfl) ?_
  refine n_bipush hx hb dX5_init_13 (by decide) ?_
  refine n_newa (atype := .int) (n := 8) (av := .inl (fun _ => iI 0)) hE hx hb (hts _ (nT_m wa_int)) rfl (fun C h9 => by cases h9) 0 rfl hK hsz (by omega) hP hS rfl (by decide) (fun cA => by rw [vp_cell_i]; rfl) (by decide) (by show 1 + 1 ≤ 8; omega) (by show 8 + 8 ≤ 109; omega) dX5_init_15 (fun w5 H f_b hne6 hP hS => ?_)
  have f_b : w5 (i + 2) = aI G 8 (fun _ => 0) := f_b
  have f_o := (hne6 i (by omega)).trans f_o
  have f_a := (hne6 (i + 1) (by omega)).trans f_a
  have hfr : ∀ j, ¬ (i ≤ j) → w5 j = w j := fun j a0 => (hne6 j (by omega)).trans (hfr j a0)
  have hP : va_P G.1 vwCl (nL (i + 3) ad w5) H := hP
  refine W.widen (k := 2) (n := 16) (by omega) (by omega) ?_
  have hJ := nad_J hE (i + 3)
  refine n_putF hx hb hts u_X5 tyX5 tyX5_ok nmX5 hown hK hJ hP hS (by omega) f_o rfl 1 (by decide) (nT_m wf_X5_15) rfl hnm rfl rfl rfl (Nat.le_of_ble_eq_true rfl) dX5_init_17 (fun w7 H locs f_o hne8 hP hS => ?_)
  have f_o : w7 i = .inr (5, [.ref (ad (i + 1)), .ref (ad (i + 2)), .null, .null, .int (iI 0), .long (jI 0), .long (jI 0)]) := f_o
  have f_a := (hne8 (i + 1) (by omega)).trans f_a
  have f_b := (hne8 (i + 2) (by omega)).trans f_b
  have hfr : ∀ j, ¬ (i ≤ j) → w7 j = w j := fun j a0 => (hne8 j (by omega)).trans (hfr j a0)
  refine lv_aload_n hx hb dX5_init_20 rfl (lv_at hl 0 rfl) ?_
  refine n_bipush hx hb dX5_init_21 (by decide) ?_
  refine n_newa (atype := .int) (n := 8) (av := .inl (fun _ => iI 0)) hE hx hb (hts _ (nT_m wa_int)) rfl (fun C h9 => by cases h9) 0 rfl hK hsz (by omega) hP hS rfl (by decide) (fun cA => by rw [vp_cell_i]; rfl) (by decide) (by show 2 + 1 ≤ 8; omega) (by show 16 + 8 ≤ 109; omega) dX5_init_23 (fun w9 H f_c hne10 hP hS => ?_)
  have f_c : w9 (i + 3) = aI G 8 (fun _ => 0) := f_c
  have f_o := (hne10 i (by omega)).trans f_o
  have f_a := (hne10 (i + 1) (by omega)).trans f_a
  have f_b := (hne10 (i + 2) (by omega)).trans f_b
  have hfr : ∀ j, ¬ (i ≤ j) → w9 j = w j := fun j a0 => (hne10 j (by omega)).trans (hfr j a0)
  have hP : va_P G.1 vwCl (nL (i + 4) ad w9) H := hP
  refine W.widen (k := 3) (n := 24) (by omega) (by omega) ?_
  have hJ := nad_J hE (i + 4)
  refine n_putF hx hb hts u_X5 tyX5 tyX5_ok nmX5 hown hK hJ hP hS (by omega) f_o rfl 2 (by decide) (nT_m wf_X5_18) rfl hnm rfl rfl rfl (Nat.le_of_ble_eq_true rfl) dX5_init_25 (fun w11 H locs f_o hne12 hP hS => ?_)
  have f_o : w11 i = .inr (5, [.ref (ad (i + 1)), .ref (ad (i + 2)), .ref (ad (i + 3)), .null, .int (iI 0), .long (jI 0), .long (jI 0)]) := f_o
  have f_a := (hne12 (i + 1) (by omega)).trans f_a
  have f_b := (hne12 (i + 2) (by omega)).trans f_b
  have f_c := (hne12 (i + 3) (by omega)).trans f_c
  have hfr : ∀ j, ¬ (i ≤ j) → w11 j = w j := fun j a0 => (hne12 j (by omega)).trans (hfr j a0)
  refine lv_aload_n hx hb dX5_init_28 rfl (lv_at hl 0 rfl) ?_
  refine n_new (M := 5) (ci := 2) (fs := [.int (iI 0), .null, .null, .null, .null]) hE hx hb hts u_X2 tyX2 tyX2_ok hown (nT_m wq_X5_21) (nT_m wo_X2) (nT_m wn_X2) hK hsz (by omega) hP hS rfl (fun j9 hj9 => match j9, hj9 with | 0, _ => rfl | 1, _ => rfl | 2, _ => rfl | 3, _ => rfl | 4, _ => rfl | k9 + 5, h9 => absurd h9 (by omega)) (by show 3 + 1 ≤ 8; omega) (by show 24 + 5 ≤ 109; omega) dX5_init_29 (fun w13 H f_e hne14 hP hS => ?_)
  have f_o := (hne14 i (by omega)).trans f_o
  have f_a := (hne14 (i + 1) (by omega)).trans f_a
  have f_b := (hne14 (i + 2) (by omega)).trans f_b
  have f_c := (hne14 (i + 3) (by omega)).trans f_c
  have hfr : ∀ j, ¬ (i ≤ j) → w13 j = w j := fun j a0 => (hne14 j (by omega)).trans (hfr j a0)
  have hP : va_P G.1 vwCl (nL (i + 5) ad w13) H := hP
  refine W.widen (k := 4) (n := 29) (by omega) (by omega) ?_
  refine lv_dup hx hb dX5_init_32 rfl ?_
  refine n_sz hE hsz (by omega) (by omega) hP (fun hH => ?_)
  refine n_cN (va_runIN (As := []) (rest := [.ref (ad (i + 4)), .ref (ad i)]) ⟨hx, hb, hml, hown, hts⟩ (c_X2_init ab (i + 4) hE f_e) ⟨va_cnB 0 hts (nT_N wc_X2_init) rfl rfl rfl (hK.2 _ (List.mem_of_getElem? (i := 2) rfl)) (hts _ (nT_m wn_X2)) (by decide +kernel) ⟨Nat.le_of_ble_eq_true rfl, Nat.le_of_ble_eq_true rfl⟩, rfl, hts _ (nT_m wi_X2_init)⟩ (nBo.pre hE hK hO hH hP) rfl rfl hl.1 rfl (lv_room (Nat.le_of_ble_eq_true rfl)) dX5_init_33 ⟨(by show 4 + 4 ≤ 8; omega), (by show 29 + 80 ≤ 109; omega)⟩) hS (fun w15 H locs hq16 hP hS => ?_)
  obtain ⟨hne17, e0, e1, e2, e3, e4⟩ := hq16
  have f_o := (hne17 i (by omega)).trans f_o
  have f_a := (hne17 (i + 1) (by omega)).trans f_a
  have f_b := (hne17 (i + 2) (by omega)).trans f_b
  have f_c := (hne17 (i + 3) (by omega)).trans f_c
  have hfr : ∀ j, ¬ (i ≤ j) → w15 j = w j := fun j a0 => (hne17 j (by omega)).trans (hfr j a0)
  have f_e0 : w15 (i + 4) = .inr (2, [.int (iI ((0 : Nat) : Int)), .ref (ad (i + 4 + 1)), .ref (ad (i + 4 + 2)), .ref (ad (i + 4 + 3)), .ref (ad (i + 4 + 4))]) := e0
  have f_e1 : w15 (i + 4 + 1) = aI G 20 (fun q => (((fun _ => 0 : Nat → Nat) q : Nat) : Int)) := e1
  have f_e2 : w15 (i + 4 + 2) = aI G 20 (fun q => (((fun _ => 0 : Nat → Nat) q : Nat) : Int)) := e2
  have f_e3 : w15 (i + 4 + 3) = aI G 20 (fun q => (((fun _ => 0 : Nat → Nat) q : Nat) : Int)) := e3
  have f_e4 : w15 (i + 4 + 4) = aI G 20 (fun q => (((fun _ => 0 : Nat → Nat) q : Nat) : Int)) := e4
  have hP : va_P G.1 vwCl (nL (i + 9) ad w15) H := hP
  refine W.widen (k := 8) (n := 109) (by omega) (by omega) ?_
  have hJ := nad_J hE (i + 9)
  refine n_putF hx hb hts u_X5 tyX5 tyX5_ok nmX5 hown hK hJ hP hS (by omega) f_o rfl 3 (by decide) (nT_m wf_X5_24) rfl hnm rfl rfl rfl (Nat.le_of_ble_eq_true rfl) dX5_init_36 (fun w18 H locs f_o hne19 hP hS => ?_)
  have f_o : w18 i = .inr (5, [.ref (ad (i + 1)), .ref (ad (i + 2)), .ref (ad (i + 3)), .ref (ad (i + 4)), .int (iI 0), .long (jI 0), .long (jI 0)]) := f_o
  have f_a := (hne19 (i + 1) (by omega)).trans f_a
  have f_b := (hne19 (i + 2) (by omega)).trans f_b
  have f_c := (hne19 (i + 3) (by omega)).trans f_c
  have f_e0 : w18 (i + 4) = .inr (2, [.int (iI ((0 : Nat) : Int)), .ref (ad (i + 4 + 1)), .ref (ad (i + 4 + 2)), .ref (ad (i + 4 + 3)), .ref (ad (i + 4 + 4))]) := ((hne19 _ (by omega)).trans f_e0)
  have f_e1 : w18 (i + 4 + 1) = aI G 20 (fun q => (((fun _ => 0 : Nat → Nat) q : Nat) : Int)) := ((hne19 _ (by omega)).trans f_e1)
  have f_e2 : w18 (i + 4 + 2) = aI G 20 (fun q => (((fun _ => 0 : Nat → Nat) q : Nat) : Int)) := ((hne19 _ (by omega)).trans f_e2)
  have f_e3 : w18 (i + 4 + 3) = aI G 20 (fun q => (((fun _ => 0 : Nat → Nat) q : Nat) : Int)) := ((hne19 _ (by omega)).trans f_e3)
  have f_e4 : w18 (i + 4 + 4) = aI G 20 (fun q => (((fun _ => 0 : Nat → Nat) q : Nat) : Int)) := ((hne19 _ (by omega)).trans f_e4)
  have hfr : ∀ j, ¬ (i ≤ j) → w18 j = w j := fun j a0 => (hne19 j (by omega)).trans (hfr j a0)
  refine lv_aload_n hx hb dX5_init_39 rfl (lv_at hl 0 rfl) ?_
  refine n_iconst hx hb dX5_init_40 ?_
  have hJ := nad_J hE (i + 9)
  refine n_put hx hb hts u_X5 tyX5 tyX5_ok nmX5 hown hK hJ hP hS (by omega) f_o rfl 4 (by decide) (nT_m wf_X5_28) rfl rfl rfl (Nat.le_of_ble_eq_true rfl) dX5_init_41 (fun w20 H locs f_o hne21 hP hS => ?_)
  have f_o : w20 i = .inr (5, [.ref (ad (i + 1)), .ref (ad (i + 2)), .ref (ad (i + 3)), .ref (ad (i + 4)), .int (iI 0), .long (jI 0), .long (jI 0)]) := f_o
  have f_a := (hne21 (i + 1) (by omega)).trans f_a
  have f_b := (hne21 (i + 2) (by omega)).trans f_b
  have f_c := (hne21 (i + 3) (by omega)).trans f_c
  have f_e0 : w20 (i + 4) = .inr (2, [.int (iI ((0 : Nat) : Int)), .ref (ad (i + 4 + 1)), .ref (ad (i + 4 + 2)), .ref (ad (i + 4 + 3)), .ref (ad (i + 4 + 4))]) := ((hne21 _ (by omega)).trans f_e0)
  have f_e1 : w20 (i + 4 + 1) = aI G 20 (fun q => (((fun _ => 0 : Nat → Nat) q : Nat) : Int)) := ((hne21 _ (by omega)).trans f_e1)
  have f_e2 : w20 (i + 4 + 2) = aI G 20 (fun q => (((fun _ => 0 : Nat → Nat) q : Nat) : Int)) := ((hne21 _ (by omega)).trans f_e2)
  have f_e3 : w20 (i + 4 + 3) = aI G 20 (fun q => (((fun _ => 0 : Nat → Nat) q : Nat) : Int)) := ((hne21 _ (by omega)).trans f_e3)
  have f_e4 : w20 (i + 4 + 4) = aI G 20 (fun q => (((fun _ => 0 : Nat → Nat) q : Nat) : Int)) := ((hne21 _ (by omega)).trans f_e4)
  have hfr : ∀ j, ¬ (i ≤ j) → w20 j = w j := fun j a0 => (hne21 j (by omega)).trans (hfr j a0)
  refine lv_aload_n hx hb dX5_init_44 rfl (lv_at hl 0 rfl) ?_
  refine n_lconst (z := 0) hx hb dX5_init_45 (by decide) ?_
  have hJ := nad_J hE (i + 9)
  refine n_put hx hb hts u_X5 tyX5 tyX5_ok nmX5 hown hK hJ hP hS (by omega) f_o rfl 5 (by decide) (nT_m wf_X5_32) rfl rfl rfl (Nat.le_of_ble_eq_true rfl) dX5_init_46 (fun w22 H locs f_o hne23 hP hS => ?_)
  have f_o : w22 i = .inr (5, [.ref (ad (i + 1)), .ref (ad (i + 2)), .ref (ad (i + 3)), .ref (ad (i + 4)), .int (iI 0), .long (jI 0), .long (jI 0)]) := f_o
  have f_a := (hne23 (i + 1) (by omega)).trans f_a
  have f_b := (hne23 (i + 2) (by omega)).trans f_b
  have f_c := (hne23 (i + 3) (by omega)).trans f_c
  have f_e0 : w22 (i + 4) = .inr (2, [.int (iI ((0 : Nat) : Int)), .ref (ad (i + 4 + 1)), .ref (ad (i + 4 + 2)), .ref (ad (i + 4 + 3)), .ref (ad (i + 4 + 4))]) := ((hne23 _ (by omega)).trans f_e0)
  have f_e1 : w22 (i + 4 + 1) = aI G 20 (fun q => (((fun _ => 0 : Nat → Nat) q : Nat) : Int)) := ((hne23 _ (by omega)).trans f_e1)
  have f_e2 : w22 (i + 4 + 2) = aI G 20 (fun q => (((fun _ => 0 : Nat → Nat) q : Nat) : Int)) := ((hne23 _ (by omega)).trans f_e2)
  have f_e3 : w22 (i + 4 + 3) = aI G 20 (fun q => (((fun _ => 0 : Nat → Nat) q : Nat) : Int)) := ((hne23 _ (by omega)).trans f_e3)
  have f_e4 : w22 (i + 4 + 4) = aI G 20 (fun q => (((fun _ => 0 : Nat → Nat) q : Nat) : Int)) := ((hne23 _ (by omega)).trans f_e4)
  have hfr : ∀ j, ¬ (i ≤ j) → w22 j = w j := fun j a0 => (hne23 j (by omega)).trans (hfr j a0)
  refine lv_aload_n hx hb dX5_init_49 rfl (lv_at hl 0 rfl) ?_
  refine n_lconst (z := 0) hx hb dX5_init_50 (by decide) ?_
  have hJ := nad_J hE (i + 9)
  refine n_put hx hb hts u_X5 tyX5 tyX5_ok nmX5 hown hK hJ hP hS (by omega) f_o rfl 6 (by decide) (nT_m wf_X5_36) rfl rfl rfl (Nat.le_of_ble_eq_true rfl) dX5_init_51 (fun w24 H locs f_o hne25 hP hS => ?_)
  have f_o : w24 i = .inr (5, [.ref (ad (i + 1)), .ref (ad (i + 2)), .ref (ad (i + 3)), .ref (ad (i + 4)), .int (iI 0), .long (jI 0), .long (jI 0)]) := f_o
  have f_a := (hne25 (i + 1) (by omega)).trans f_a
  have f_b := (hne25 (i + 2) (by omega)).trans f_b
  have f_c := (hne25 (i + 3) (by omega)).trans f_c
  have f_e0 : w24 (i + 4) = .inr (2, [.int (iI ((0 : Nat) : Int)), .ref (ad (i + 4 + 1)), .ref (ad (i + 4 + 2)), .ref (ad (i + 4 + 3)), .ref (ad (i + 4 + 4))]) := ((hne25 _ (by omega)).trans f_e0)
  have f_e1 : w24 (i + 4 + 1) = aI G 20 (fun q => (((fun _ => 0 : Nat → Nat) q : Nat) : Int)) := ((hne25 _ (by omega)).trans f_e1)
  have f_e2 : w24 (i + 4 + 2) = aI G 20 (fun q => (((fun _ => 0 : Nat → Nat) q : Nat) : Int)) := ((hne25 _ (by omega)).trans f_e2)
  have f_e3 : w24 (i + 4 + 3) = aI G 20 (fun q => (((fun _ => 0 : Nat → Nat) q : Nat) : Int)) := ((hne25 _ (by omega)).trans f_e3)
  have f_e4 : w24 (i + 4 + 4) = aI G 20 (fun q => (((fun _ => 0 : Nat → Nat) q : Nat) : Int)) := ((hne25 _ (by omega)).trans f_e4)
  have hfr : ∀ j, ¬ (i ≤ j) → w24 j = w j := fun j a0 => (hne25 j (by omega)).trans (hfr j a0)
  refine n_vretN (K := 8) hQ hx hb hr hlocks hP hS dX5_init_54 ?_
  exact ⟨hfr, f_o, f_a, f_b, f_c, f_e0, f_e1, f_e2, f_e3, f_e4⟩

def D0 : Nat → Nat → Nat := fun tag q => if tag = 3 ∨ tag = 8 then 1 else 0
theorem if_s {f : Nat → Option Nat} (q : Nat) : va_up (fun k => if k < q then f k else none) q (f q) = fun k => if k < q + 1 then f k else none := by
  funext k
  unfold va_up
  by_cases e : k = q
  · rw [if_pos e, if_pos (by omega), e]
  · rw [if_neg e]
    dsimp only
    by_cases h : k < q
    · rw [if_pos h, if_pos (by omega)]
    · rw [if_neg h, if_neg (by omega)]
theorem clip_0 (n : Nat) : clip n (fun _ => 0) = fun _ => 0 := by
  funext q
  unfold clip
  split <;> rfl
theorem dTl_D0 (t : Nat) : dTl D0 t = fun _ _ => 0 := by
  have hH : ∀ s1, dH D0 t s1 = fun _ => 0 := fun s1 => clip_0 8
  have hX : ∀ c, dX D0 t c = fun _ => 0 := fun c => clip_0 20
  funext i q
  match i with
  | 0 => rfl
  | 1 => rfl
  | 2 => exact Nat.zero_div _
  | 3 => rfl
  | 4 => exact congrFun (hH 0) q
  | 5 => exact congrFun (hH 1) q
  | 6 => exact congrFun (clip_0 8) q
  | 7 => exact congrFun (hX 0) q
  | 8 => exact congrFun (hX 1) q
  | 9 => exact congrFun (hX 2) q
  | k + 10 => exact congrFun (hX 3) q
theorem coin_D0 {G : nG} {ad : Nat → Nat} {w : Nat → va_E} {i : Nat} (k : Nat) (h : coinAt G ad w i 0 (fun _ => 0) (fun _ => 0) (va_up (fillF (fun _ => 0) (-1) 2001) 0 0)) : coinAt G ad w i (D0 1 k) (dV D0 k) (dF D0 k) (dL D0 k) := by
  have e : dV D0 k = fun _ => 0 := clip_0 8
  have e2 : dF D0 k = fun _ => 0 := rfl
  have e3 : dL D0 k = va_up (fillF (fun _ => 0) (-1) 2001) 0 0 := rfl
  rw [e, e2, e3]
  exact h
set_option maxHeartbeats 4000000 in
set_option maxRecDepth 100000 in
theorem c_X4_init {l : Launch} {G : nG} {ad : Nat → Nat} {w : Nat → va_E} (ab i : Nat) (hE : ad = nad ab) (f_L : w i = .inr (4, [.null, .null, .null, .null, .null, .int (iI 0), .int (iI 0), .int (iI 0), .int (iI 0)])) : Met l yX4_init wsX4_init ({ frames := 3, cells := 49, slots := 4549, locals := 52 }) (va_Pc [.ref (ad i)] (nBo G ab (i + 1) ad w)) (nPn G ab (i + 1) 49 ad (fun u => (∀ j, ¬ (i ≤ j) → u j = w j) ∧ (LandAt G ad u i D0))) 49 4549 (nF ab) := by
  refine n_entN (cc := cX4_init) (maxL := 2) (ret := (none : Option Jvm.ClassFile.FieldType)) (by decide) rfl (Nat.le_of_ble_eq_true rfl) ?_
  intro p e s m below meth cd hx hb hr hml hlocks hts hown hnm hsz hP hK hO Q hQ ls hl
  have hown : s.vm.findClass RX4 = some m.cls := hown
  have hS : va_S (nF ab) s.heap s.heap [] := va_S.rf
  have hfr : ∀ j, ¬ (i ≤ j) → w j = w j := fun _ _ => rfl
  have hl : lv_has ls 2 [(0, .ref (ad i))] := hl
  refine lv_aload_n hx hb dX4_init_0 rfl (lv_at hl 0 rfl) ?_
  refine W.objInit hx hb hown (hts _ (nT_m wl_X4_3)) (hts _ (nT_m wi_objectInit)) (hts _ (nT_m wc_objectInit)) rfl (hl.1.trans hml.symm) rfl dX4_init_1 (Nat.le_of_ble_eq_true rfl) (Nat.le_of_ble_eq_true rfl) ?_
  refine lv_aload_n hx hb dX4_init_4 rfl (lv_at hl 0 rfl) ?_
  refine n_new (M := 4) (ci := 1) (fs := [.int (iI 0), .null, .null, .null]) hE hx hb hts u_X1 tyX1 tyX1_ok hown (nT_m wq_X4_9) (nT_m wo_X1) (nT_m wn_X1) hK hsz (by omega) hP hS rfl (fun j9 hj9 => match j9, hj9 with | 0, _ => rfl | 1, _ => rfl | 2, _ => rfl | 3, _ => rfl | k9 + 4, h9 => absurd h9 (by omega)) (by show 0 + 1 ≤ 49; omega) (by show 0 + 4 ≤ 4549; omega) dX4_init_5 (fun w1 H f_n1 hne2 hP hS => ?_)
  have f_L := (hne2 i (by omega)).trans f_L
  have hfr : ∀ j, ¬ (i ≤ j) → w1 j = w j := fun j a0 => (hne2 j (by omega)).trans (hfr j a0)
  have hP : va_P G.1 vwCl (nL (i + 2) ad w1) H := hP
  refine W.widen (k := 1) (n := 4) (by omega) (by omega) ?_
  refine lv_dup hx hb dX4_init_8 rfl ?_
  refine n_sz hE hsz (by omega) (by omega) hP (fun hH => ?_)
  refine n_cN (va_runI (As := []) (rest := [.ref (ad (i + 1)), .ref (ad i)]) ⟨hx, hb, hml, hown, hts⟩ (c_X1_init ab (i + 1) hE f_n1) (cwI 0 hts (nT_N wc_X1_init) rfl rfl rfl (hts _ (nT_m wn_X1)) (hts _ (nT_m wl_X4_11)) (hts _ (nT_m wi_X1_init)) rfl (by decide +kernel) ⟨Nat.le_of_ble_eq_true rfl, Nat.le_of_ble_eq_true rfl⟩) (nBo.pre hE hK hO hH hP) rfl rfl hl.1 rfl (lv_room (Nat.le_of_ble_eq_true rfl)) dX4_init_9 ⟨(by show 1 + 3 ≤ 49; omega), (by show 4 + 2017 ≤ 4549; omega)⟩) hS (fun w3 H locs hq4 hP hS => ?_)
  obtain ⟨hne5, hp9⟩ := hq4
  have f_L := (hne5 i (by omega)).trans f_L
  have hfr : ∀ j, ¬ (i ≤ j) → w3 j = w j := fun j a0 => (hne5 j (by omega)).trans (hfr j a0)
  have f_c1 : coinAt G ad w3 (i + 1) 0 (fun _ => 0) (fun _ => 0) (va_up (fillF (fun _ => 0) (-1) 2001) 0 0) := hp9
  have hP : va_P G.1 vwCl (nL (i + 5) ad w3) H := hP
  refine W.widen (k := 4) (n := 2021) (by omega) (by omega) ?_
  have hJ := nad_J hE (i + 5)
  refine n_putF hx hb hts u_X4 tyX4 tyX4_ok nmX4 hown hK hJ hP hS (by omega) f_L rfl 0 (by decide) (nT_m wf_X4_12) rfl hnm rfl rfl rfl (Nat.le_of_ble_eq_true rfl) dX4_init_12 (fun w6 H locs f_L hne7 hP hS => ?_)
  have f_L : w6 i = .inr (4, [.ref (ad (i + 1)), .null, .null, .null, .null, .int (iI 0), .int (iI 0), .int (iI 0), .int (iI 0)]) := f_L
  have f_c1 : coinAt G ad w6 (i + 1) 0 (fun _ => 0) (fun _ => 0) (va_up (fillF (fun _ => 0) (-1) 2001) 0 0) := (coinAt_fr (fun j h1 h2 => hne7 j (by omega)) f_c1)
  have hfr : ∀ j, ¬ (i ≤ j) → w6 j = w j := fun j a0 => (hne7 j (by omega)).trans (hfr j a0)
  refine lv_aload_n hx hb dX4_init_15 rfl (lv_at hl 0 rfl) ?_
  refine n_new (M := 4) (ci := 1) (fs := [.int (iI 0), .null, .null, .null]) hE hx hb hts u_X1 tyX1 tyX1_ok hown (nT_m wq_X4_9) (nT_m wo_X1) (nT_m wn_X1) hK hsz (by omega) hP hS rfl (fun j9 hj9 => match j9, hj9 with | 0, _ => rfl | 1, _ => rfl | 2, _ => rfl | 3, _ => rfl | k9 + 4, h9 => absurd h9 (by omega)) (by show 4 + 1 ≤ 49; omega) (by show 2021 + 4 ≤ 4549; omega) dX4_init_16 (fun w8 H f_n2 hne9 hP hS => ?_)
  have f_L := (hne9 i (by omega)).trans f_L
  have f_c1 : coinAt G ad w8 (i + 1) 0 (fun _ => 0) (fun _ => 0) (va_up (fillF (fun _ => 0) (-1) 2001) 0 0) := (coinAt_fr (fun j h1 h2 => hne9 j (by omega)) f_c1)
  have hfr : ∀ j, ¬ (i ≤ j) → w8 j = w j := fun j a0 => (hne9 j (by omega)).trans (hfr j a0)
  have hP : va_P G.1 vwCl (nL (i + 6) ad w8) H := hP
  refine W.widen (k := 5) (n := 2025) (by omega) (by omega) ?_
  refine lv_dup hx hb dX4_init_19 rfl ?_
  refine n_sz hE hsz (by omega) (by omega) hP (fun hH => ?_)
  refine n_cN (va_runI (As := []) (rest := [.ref (ad (i + 5)), .ref (ad i)]) ⟨hx, hb, hml, hown, hts⟩ (c_X1_init ab (i + 5) hE f_n2) (cwI 0 hts (nT_N wc_X1_init) rfl rfl rfl (hts _ (nT_m wn_X1)) (hts _ (nT_m wl_X4_11)) (hts _ (nT_m wi_X1_init)) rfl (by decide +kernel) ⟨Nat.le_of_ble_eq_true rfl, Nat.le_of_ble_eq_true rfl⟩) (nBo.pre hE hK hO hH hP) rfl rfl hl.1 rfl (lv_room (Nat.le_of_ble_eq_true rfl)) dX4_init_20 ⟨(by show 5 + 3 ≤ 49; omega), (by show 2025 + 2017 ≤ 4549; omega)⟩) hS (fun w10 H locs hq11 hP hS => ?_)
  obtain ⟨hne12, hp9⟩ := hq11
  have f_L := (hne12 i (by omega)).trans f_L
  have f_c1 : coinAt G ad w10 (i + 1) 0 (fun _ => 0) (fun _ => 0) (va_up (fillF (fun _ => 0) (-1) 2001) 0 0) := (coinAt_fr (fun j h1 h2 => hne12 j (by omega)) f_c1)
  have hfr : ∀ j, ¬ (i ≤ j) → w10 j = w j := fun j a0 => (hne12 j (by omega)).trans (hfr j a0)
  have f_c5 : coinAt G ad w10 (i + 5) 0 (fun _ => 0) (fun _ => 0) (va_up (fillF (fun _ => 0) (-1) 2001) 0 0) := hp9
  have hP : va_P G.1 vwCl (nL (i + 9) ad w10) H := hP
  refine W.widen (k := 8) (n := 4042) (by omega) (by omega) ?_
  have hJ := nad_J hE (i + 9)
  refine n_putF hx hb hts u_X4 tyX4 tyX4_ok nmX4 hown hK hJ hP hS (by omega) f_L rfl 1 (by decide) (nT_m wf_X4_18) rfl hnm rfl rfl rfl (Nat.le_of_ble_eq_true rfl) dX4_init_23 (fun w13 H locs f_L hne14 hP hS => ?_)
  have f_L : w13 i = .inr (4, [.ref (ad (i + 1)), .ref (ad (i + 5)), .null, .null, .null, .int (iI 0), .int (iI 0), .int (iI 0), .int (iI 0)]) := f_L
  have f_c1 : coinAt G ad w13 (i + 1) 0 (fun _ => 0) (fun _ => 0) (va_up (fillF (fun _ => 0) (-1) 2001) 0 0) := (coinAt_fr (fun j h1 h2 => hne14 j (by omega)) f_c1)
  have f_c5 : coinAt G ad w13 (i + 5) 0 (fun _ => 0) (fun _ => 0) (va_up (fillF (fun _ => 0) (-1) 2001) 0 0) := (coinAt_fr (fun j h1 h2 => hne14 j (by omega)) f_c5)
  have hfr : ∀ j, ¬ (i ≤ j) → w13 j = w j := fun j a0 => (hne14 j (by omega)).trans (hfr j a0)
  refine lv_aload_n hx hb dX4_init_26 rfl (lv_at hl 0 rfl) ?_
  refine n_new (M := 3) (ci := 3) (fs := [.int (iI 0), .null, .null]) hE hx hb hts u_X3 tyX3 tyX3_ok hown (nT_m wq_X4_21) (nT_m wo_X3) (nT_m wn_X3) hK hsz (by omega) hP hS rfl (fun j9 hj9 => match j9, hj9 with | 0, _ => rfl | 1, _ => rfl | 2, _ => rfl | k9 + 3, h9 => absurd h9 (by omega)) (by show 8 + 1 ≤ 49; omega) (by show 4042 + 3 ≤ 4549; omega) dX4_init_27 (fun w15 H f_n3 hne16 hP hS => ?_)
  have f_L := (hne16 i (by omega)).trans f_L
  have f_c1 : coinAt G ad w15 (i + 1) 0 (fun _ => 0) (fun _ => 0) (va_up (fillF (fun _ => 0) (-1) 2001) 0 0) := (coinAt_fr (fun j h1 h2 => hne16 j (by omega)) f_c1)
  have f_c5 : coinAt G ad w15 (i + 5) 0 (fun _ => 0) (fun _ => 0) (va_up (fillF (fun _ => 0) (-1) 2001) 0 0) := (coinAt_fr (fun j h1 h2 => hne16 j (by omega)) f_c5)
  have hfr : ∀ j, ¬ (i ≤ j) → w15 j = w j := fun j a0 => (hne16 j (by omega)).trans (hfr j a0)
  have hP : va_P G.1 vwCl (nL (i + 10) ad w15) H := hP
  refine W.widen (k := 9) (n := 4045) (by omega) (by omega) ?_
  refine lv_dup hx hb dX4_init_30 rfl ?_
  refine n_sz hE hsz (by omega) (by omega) hP (fun hH => ?_)
  refine n_cN (va_runIN (As := []) (rest := [.ref (ad (i + 9)), .ref (ad i)]) ⟨hx, hb, hml, hown, hts⟩ (c_X3_init ab (i + 9) hE f_n3) ⟨va_cnB 0 hts (nT_N wc_X3_init) rfl rfl rfl (hK.2 _ (List.mem_of_getElem? (i := 0) rfl)) (hts _ (nT_m wn_X3)) (by decide +kernel) ⟨Nat.le_of_ble_eq_true rfl, Nat.le_of_ble_eq_true rfl⟩, rfl, hts _ (nT_m wi_X3_init)⟩ (nBo.pre hE hK hO hH hP) rfl rfl hl.1 rfl (lv_room (Nat.le_of_ble_eq_true rfl)) dX4_init_31 ⟨(by show 9 + 2 ≤ 49; omega), (by show 4045 + 28 ≤ 4549; omega)⟩) hS (fun w17 H locs hq18 hP hS => ?_)
  obtain ⟨hne19, hp9⟩ := hq18
  have f_L := (hne19 i (by omega)).trans f_L
  have f_c1 : coinAt G ad w17 (i + 1) 0 (fun _ => 0) (fun _ => 0) (va_up (fillF (fun _ => 0) (-1) 2001) 0 0) := (coinAt_fr (fun j h1 h2 => hne19 j (by omega)) f_c1)
  have f_c5 : coinAt G ad w17 (i + 5) 0 (fun _ => 0) (fun _ => 0) (va_up (fillF (fun _ => 0) (-1) 2001) 0 0) := (coinAt_fr (fun j h1 h2 => hne19 j (by omega)) f_c5)
  have hfr : ∀ j, ¬ (i ≤ j) → w17 j = w j := fun j a0 => (hne19 j (by omega)).trans (hfr j a0)
  have f_g : goodAt G ad w17 (i + 9) 0 (fun _ => 0) (fun _ => 0) := hp9
  have hP : va_P G.1 vwCl (nL (i + 12) ad w17) H := hP
  refine W.widen (k := 11) (n := 4073) (by omega) (by omega) ?_
  have hJ := nad_J hE (i + 12)
  refine n_putF hx hb hts u_X4 tyX4 tyX4_ok nmX4 hown hK hJ hP hS (by omega) f_L rfl 2 (by decide) (nT_m wf_X4_24) rfl hnm rfl rfl rfl (Nat.le_of_ble_eq_true rfl) dX4_init_34 (fun w20 H locs f_L hne21 hP hS => ?_)
  have f_L : w20 i = .inr (4, [.ref (ad (i + 1)), .ref (ad (i + 5)), .ref (ad (i + 9)), .null, .null, .int (iI 0), .int (iI 0), .int (iI 0), .int (iI 0)]) := f_L
  have f_c1 : coinAt G ad w20 (i + 1) 0 (fun _ => 0) (fun _ => 0) (va_up (fillF (fun _ => 0) (-1) 2001) 0 0) := (coinAt_fr (fun j h1 h2 => hne21 j (by omega)) f_c1)
  have f_c5 : coinAt G ad w20 (i + 5) 0 (fun _ => 0) (fun _ => 0) (va_up (fillF (fun _ => 0) (-1) 2001) 0 0) := (coinAt_fr (fun j h1 h2 => hne21 j (by omega)) f_c5)
  have f_g : goodAt G ad w20 (i + 9) 0 (fun _ => 0) (fun _ => 0) := (goodAt_fr (fun j h1 h2 => hne21 j (by omega)) f_g)
  have hfr : ∀ j, ¬ (i ≤ j) → w20 j = w j := fun j a0 => (hne21 j (by omega)).trans (hfr j a0)
  refine lv_aload_n hx hb dX4_init_37 rfl (lv_at hl 0 rfl) ?_
  refine n_iconst hx hb dX4_init_38 ?_
  refine n_newq (n := 4) hE hx hb hown (hts _ (nT_m wq_X4_28)) hO.1 3 rfl hK hsz (by omega) hP hS rfl (by decide) (by decide) (by show 11 + 1 ≤ 49; omega) (by show 4073 + 4 ≤ 4549; omega) dX4_init_39 (fun w22 H f_ts hne23 hP hS => ?_)
  have f_L := (hne23 i (by omega)).trans f_L
  have f_c1 : coinAt G ad w22 (i + 1) 0 (fun _ => 0) (fun _ => 0) (va_up (fillF (fun _ => 0) (-1) 2001) 0 0) := (coinAt_fr (fun j h1 h2 => hne23 j (by omega)) f_c1)
  have f_c5 : coinAt G ad w22 (i + 5) 0 (fun _ => 0) (fun _ => 0) (va_up (fillF (fun _ => 0) (-1) 2001) 0 0) := (coinAt_fr (fun j h1 h2 => hne23 j (by omega)) f_c5)
  have f_g : goodAt G ad w22 (i + 9) 0 (fun _ => 0) (fun _ => 0) := (goodAt_fr (fun j h1 h2 => hne23 j (by omega)) f_g)
  have hfr : ∀ j, ¬ (i ≤ j) → w22 j = w j := fun j a0 => (hne23 j (by omega)).trans (hfr j a0)
  have hP : va_P G.1 vwCl (nL (i + 13) ad w22) H := hP
  refine W.widen (k := 12) (n := 4077) (by omega) (by omega) ?_
  have hJ := nad_J hE (i + 13)
  refine n_putF hx hb hts u_X4 tyX4 tyX4_ok nmX4 hown hK hJ hP hS (by omega) f_L rfl 3 (by decide) (nT_m wf_X4_30) rfl hnm rfl rfl rfl (Nat.le_of_ble_eq_true rfl) dX4_init_42 (fun w24 H locs f_L hne25 hP hS => ?_)
  have f_L : w24 i = .inr (4, [.ref (ad (i + 1)), .ref (ad (i + 5)), .ref (ad (i + 9)), .ref (ad (i + 12)), .null, .int (iI 0), .int (iI 0), .int (iI 0), .int (iI 0)]) := f_L
  have f_c1 : coinAt G ad w24 (i + 1) 0 (fun _ => 0) (fun _ => 0) (va_up (fillF (fun _ => 0) (-1) 2001) 0 0) := (coinAt_fr (fun j h1 h2 => hne25 j (by omega)) f_c1)
  have f_c5 : coinAt G ad w24 (i + 5) 0 (fun _ => 0) (fun _ => 0) (va_up (fillF (fun _ => 0) (-1) 2001) 0 0) := (coinAt_fr (fun j h1 h2 => hne25 j (by omega)) f_c5)
  have f_g : goodAt G ad w24 (i + 9) 0 (fun _ => 0) (fun _ => 0) := (goodAt_fr (fun j h1 h2 => hne25 j (by omega)) f_g)
  have f_ts := (hne25 (i + 12) (by omega)).trans f_ts
  have hfr : ∀ j, ¬ (i ≤ j) → w24 j = w j := fun j a0 => (hne25 j (by omega)).trans (hfr j a0)
  refine lv_aload_n hx hb dX4_init_45 rfl (lv_at hl 0 rfl) ?_
  refine n_bipush hx hb dX4_init_46 (by decide) ?_
  refine n_newa (atype := .int) (n := 8) (av := .inl (fun _ => iI 0)) hE hx hb (hts _ (nT_m wa_int)) rfl (fun C h9 => by cases h9) 0 rfl hK hsz (by omega) hP hS rfl (by decide) (fun cA => by rw [vp_cell_i]; rfl) (by decide) (by show 12 + 1 ≤ 49; omega) (by show 4077 + 8 ≤ 4549; omega) dX4_init_48 (fun w26 H f_dr hne27 hP hS => ?_)
  have f_dr : w26 (i + 13) = aI G 8 (fun _ => 0) := f_dr
  have f_L := (hne27 i (by omega)).trans f_L
  have f_c1 : coinAt G ad w26 (i + 1) 0 (fun _ => 0) (fun _ => 0) (va_up (fillF (fun _ => 0) (-1) 2001) 0 0) := (coinAt_fr (fun j h1 h2 => hne27 j (by omega)) f_c1)
  have f_c5 : coinAt G ad w26 (i + 5) 0 (fun _ => 0) (fun _ => 0) (va_up (fillF (fun _ => 0) (-1) 2001) 0 0) := (coinAt_fr (fun j h1 h2 => hne27 j (by omega)) f_c5)
  have f_g : goodAt G ad w26 (i + 9) 0 (fun _ => 0) (fun _ => 0) := (goodAt_fr (fun j h1 h2 => hne27 j (by omega)) f_g)
  have f_ts := (hne27 (i + 12) (by omega)).trans f_ts
  have hfr : ∀ j, ¬ (i ≤ j) → w26 j = w j := fun j a0 => (hne27 j (by omega)).trans (hfr j a0)
  have hP : va_P G.1 vwCl (nL (i + 14) ad w26) H := hP
  refine W.widen (k := 13) (n := 4085) (by omega) (by omega) ?_
  have hJ := nad_J hE (i + 14)
  refine n_putF hx hb hts u_X4 tyX4 tyX4_ok nmX4 hown hK hJ hP hS (by omega) f_L rfl 4 (by decide) (nT_m wf_X4_34) rfl hnm rfl rfl rfl (Nat.le_of_ble_eq_true rfl) dX4_init_50 (fun w28 H locs f_L hne29 hP hS => ?_)
  have f_L : w28 i = .inr (4, [.ref (ad (i + 1)), .ref (ad (i + 5)), .ref (ad (i + 9)), .ref (ad (i + 12)), .ref (ad (i + 13)), .int (iI 0), .int (iI 0), .int (iI 0), .int (iI 0)]) := f_L
  have f_c1 : coinAt G ad w28 (i + 1) 0 (fun _ => 0) (fun _ => 0) (va_up (fillF (fun _ => 0) (-1) 2001) 0 0) := (coinAt_fr (fun j h1 h2 => hne29 j (by omega)) f_c1)
  have f_c5 : coinAt G ad w28 (i + 5) 0 (fun _ => 0) (fun _ => 0) (va_up (fillF (fun _ => 0) (-1) 2001) 0 0) := (coinAt_fr (fun j h1 h2 => hne29 j (by omega)) f_c5)
  have f_g : goodAt G ad w28 (i + 9) 0 (fun _ => 0) (fun _ => 0) := (goodAt_fr (fun j h1 h2 => hne29 j (by omega)) f_g)
  have f_ts := (hne29 (i + 12) (by omega)).trans f_ts
  have f_dr := (hne29 (i + 13) (by omega)).trans f_dr
  have hfr : ∀ j, ¬ (i ≤ j) → w28 j = w j := fun j a0 => (hne29 j (by omega)).trans (hfr j a0)
  refine lv_aload_n hx hb dX4_init_53 rfl (lv_at hl 0 rfl) ?_
  refine n_iconst hx hb dX4_init_54 ?_
  have hJ := nad_J hE (i + 14)
  refine n_put hx hb hts u_X4 tyX4 tyX4_ok nmX4 hown hK hJ hP hS (by omega) f_L rfl 5 (by decide) (nT_m wf_X4_38) rfl rfl rfl (Nat.le_of_ble_eq_true rfl) dX4_init_55 (fun w30 H locs f_L hne31 hP hS => ?_)
  have f_L : w30 i = .inr (4, [.ref (ad (i + 1)), .ref (ad (i + 5)), .ref (ad (i + 9)), .ref (ad (i + 12)), .ref (ad (i + 13)), .int (iI 0), .int (iI 0), .int (iI 0), .int (iI 0)]) := f_L
  have f_c1 : coinAt G ad w30 (i + 1) 0 (fun _ => 0) (fun _ => 0) (va_up (fillF (fun _ => 0) (-1) 2001) 0 0) := (coinAt_fr (fun j h1 h2 => hne31 j (by omega)) f_c1)
  have f_c5 : coinAt G ad w30 (i + 5) 0 (fun _ => 0) (fun _ => 0) (va_up (fillF (fun _ => 0) (-1) 2001) 0 0) := (coinAt_fr (fun j h1 h2 => hne31 j (by omega)) f_c5)
  have f_g : goodAt G ad w30 (i + 9) 0 (fun _ => 0) (fun _ => 0) := (goodAt_fr (fun j h1 h2 => hne31 j (by omega)) f_g)
  have f_ts := (hne31 (i + 12) (by omega)).trans f_ts
  have f_dr := (hne31 (i + 13) (by omega)).trans f_dr
  have hfr : ∀ j, ¬ (i ≤ j) → w30 j = w j := fun j a0 => (hne31 j (by omega)).trans (hfr j a0)
  refine lv_aload_n hx hb dX4_init_58 rfl (lv_at hl 0 rfl) ?_
  refine n_iconst hx hb dX4_init_59 ?_
  have hJ := nad_J hE (i + 14)
  refine n_put hx hb hts u_X4 tyX4 tyX4_ok nmX4 hown hK hJ hP hS (by omega) f_L rfl 6 (by decide) (nT_m wf_X4_42) rfl rfl rfl (Nat.le_of_ble_eq_true rfl) dX4_init_60 (fun w32 H locs f_L hne33 hP hS => ?_)
  have f_L : w32 i = .inr (4, [.ref (ad (i + 1)), .ref (ad (i + 5)), .ref (ad (i + 9)), .ref (ad (i + 12)), .ref (ad (i + 13)), .int (iI 0), .int (iI 1), .int (iI 0), .int (iI 0)]) := f_L
  have f_c1 : coinAt G ad w32 (i + 1) 0 (fun _ => 0) (fun _ => 0) (va_up (fillF (fun _ => 0) (-1) 2001) 0 0) := (coinAt_fr (fun j h1 h2 => hne33 j (by omega)) f_c1)
  have f_c5 : coinAt G ad w32 (i + 5) 0 (fun _ => 0) (fun _ => 0) (va_up (fillF (fun _ => 0) (-1) 2001) 0 0) := (coinAt_fr (fun j h1 h2 => hne33 j (by omega)) f_c5)
  have f_g : goodAt G ad w32 (i + 9) 0 (fun _ => 0) (fun _ => 0) := (goodAt_fr (fun j h1 h2 => hne33 j (by omega)) f_g)
  have f_ts := (hne33 (i + 12) (by omega)).trans f_ts
  have f_dr := (hne33 (i + 13) (by omega)).trans f_dr
  have hfr : ∀ j, ¬ (i ≤ j) → w32 j = w j := fun j a0 => (hne33 j (by omega)).trans (hfr j a0)
  refine lv_aload_n hx hb dX4_init_63 rfl (lv_at hl 0 rfl) ?_
  refine n_iconst hx hb dX4_init_64 ?_
  have hJ := nad_J hE (i + 14)
  refine n_put hx hb hts u_X4 tyX4 tyX4_ok nmX4 hown hK hJ hP hS (by omega) f_L rfl 7 (by decide) (nT_m wf_X4_45) rfl rfl rfl (Nat.le_of_ble_eq_true rfl) dX4_init_65 (fun w34 H locs f_L hne35 hP hS => ?_)
  have f_L : w34 i = .inr (4, [.ref (ad (i + 1)), .ref (ad (i + 5)), .ref (ad (i + 9)), .ref (ad (i + 12)), .ref (ad (i + 13)), .int (iI 0), .int (iI 1), .int (iI 1), .int (iI 0)]) := f_L
  have f_c1 : coinAt G ad w34 (i + 1) 0 (fun _ => 0) (fun _ => 0) (va_up (fillF (fun _ => 0) (-1) 2001) 0 0) := (coinAt_fr (fun j h1 h2 => hne35 j (by omega)) f_c1)
  have f_c5 : coinAt G ad w34 (i + 5) 0 (fun _ => 0) (fun _ => 0) (va_up (fillF (fun _ => 0) (-1) 2001) 0 0) := (coinAt_fr (fun j h1 h2 => hne35 j (by omega)) f_c5)
  have f_g : goodAt G ad w34 (i + 9) 0 (fun _ => 0) (fun _ => 0) := (goodAt_fr (fun j h1 h2 => hne35 j (by omega)) f_g)
  have f_ts := (hne35 (i + 12) (by omega)).trans f_ts
  have f_dr := (hne35 (i + 13) (by omega)).trans f_dr
  have hfr : ∀ j, ¬ (i ≤ j) → w34 j = w j := fun j a0 => (hne35 j (by omega)).trans (hfr j a0)
  refine lv_aload_n hx hb dX4_init_68 rfl (lv_at hl 0 rfl) ?_
  refine n_iconst hx hb dX4_init_69 ?_
  have hJ := nad_J hE (i + 14)
  refine n_put hx hb hts u_X4 tyX4 tyX4_ok nmX4 hown hK hJ hP hS (by omega) f_L rfl 8 (by decide) (nT_m wf_X4_48) rfl rfl rfl (Nat.le_of_ble_eq_true rfl) dX4_init_70 (fun w36 H locs f_L hne37 hP hS => ?_)
  have f_L : w36 i = .inr (4, [.ref (ad (i + 1)), .ref (ad (i + 5)), .ref (ad (i + 9)), .ref (ad (i + 12)), .ref (ad (i + 13)), .int (iI 0), .int (iI 1), .int (iI 1), .int (iI 1)]) := f_L
  have f_c1 : coinAt G ad w36 (i + 1) 0 (fun _ => 0) (fun _ => 0) (va_up (fillF (fun _ => 0) (-1) 2001) 0 0) := (coinAt_fr (fun j h1 h2 => hne37 j (by omega)) f_c1)
  have f_c5 : coinAt G ad w36 (i + 5) 0 (fun _ => 0) (fun _ => 0) (va_up (fillF (fun _ => 0) (-1) 2001) 0 0) := (coinAt_fr (fun j h1 h2 => hne37 j (by omega)) f_c5)
  have f_g : goodAt G ad w36 (i + 9) 0 (fun _ => 0) (fun _ => 0) := (goodAt_fr (fun j h1 h2 => hne37 j (by omega)) f_g)
  have f_ts := (hne37 (i + 12) (by omega)).trans f_ts
  have f_dr := (hne37 (i + 13) (by omega)).trans f_dr
  have hfr : ∀ j, ¬ (i ≤ j) → w36 j = w j := fun j a0 => (hne37 j (by omega)).trans (hfr j a0)
  have f_td : ∀ t, t < 0 → tillAt G ad w36 (i + 14 + 9 * t) (fun _ _ => 0) := fun t h9 => absurd h9 (Nat.not_lt_zero _)
  refine n_iconst hx hb dX4_init_73 ?_
  refine lv_istore_n (lv' := [(1, .int (iI 0)), (0, .ref (ad i))]) hx hb dX4_init_74 rfl hl (by decide) rfl (fun ls hl => ?_)
  have lp38 : ∀ (fu : Nat), ∀ (q : Nat), ∀ (w39 : Nat → va_E) (H : Heap) (locs : List Loc), ∀ (ls : Array Slot), 4 - q < fu → q ≤ 4 → (∀ j, ¬ (i ≤ j) → w39 j = w j) → w39 i = .inr (4, [.ref (ad (i + 1)), .ref (ad (i + 5)), .ref (ad (i + 9)), .ref (ad (i + 12)), .ref (ad (i + 13)), .int (iI 0), .int (iI 1), .int (iI 1), .int (iI 1)]) → coinAt G ad w39 (i + 1) 0 (fun _ => 0) (fun _ => 0) (va_up (fillF (fun _ => 0) (-1) 2001) 0 0) → coinAt G ad w39 (i + 5) 0 (fun _ => 0) (fun _ => 0) (va_up (fillF (fun _ => 0) (-1) 2001) 0 0) → goodAt G ad w39 (i + 9) 0 (fun _ => 0) (fun _ => 0) → w39 (i + 12) = aR G 3 4 (fun k => if k < q then some (ad (i + 14 + 9 * k)) else none) → w39 (i + 13) = aI G 8 (fun _ => 0) → (∀ t, t < q → tillAt G ad w39 (i + 14 + 9 * t) (fun _ _ => 0)) → va_P G.1 vwCl (nL (i + 14 + 9 * q) ad w39) H → va_S (nF ab) s.heap H locs → lv_has ls 2 [(0, .ref (ad i)), (1, .int (iI ((q : Nat) : Int)))] → W p l e ({ frames := 3, cells := 49, slots := 4549, locals := 52 } : Room) s m ([.ref (ad i)] : List Value).toArray below meth cd H locs (13 + 9 * q) (4085 + 116 * q) Q (F0 m 75 ls []) := by
    intro fu
    induction fu with
    | zero =>
      intro q w39 H locs ls hfu hq hfr f_L f_c1 f_c5 f_g f_ts f_dr f_td hP hS hl
      exact absurd hfu (Nat.not_lt_zero _)
    | succ fu ih40 =>
      intro q w39 H locs ls hfu hq hfr f_L f_c1 f_c5 f_g f_ts f_dr f_td hP hS hl
      refine lv_iload_n hx hb dX4_init_75 rfl (lv_at hl 1 rfl) ?_
      refine n_iconst hx hb dX4_init_76 ?_
      refine n_icmp_ge (tgt := 99) hx hb dX4_init_77 (by decide) (by omega) (by omega) (fun hc77 => ?_) (fun hc77 => ?_)
      · skip
        obtain rfl : q = 4 := by omega
        have hP := n_repR (f2 := fun k => some (ad (i + 14 + 9 * k))) (by omega) f_ts (fun k hk9 => if_pos hk9) hP
        have hw9 : ∀ j, j ≠ i + 12 → va_up w39 (i + 12) (aR G 3 4 (fun k => some (ad (i + 14 + 9 * k)))) j = w39 j := fun j h9 => va_up_ne _ _ h9
        refine n_vretN (K := 49) hQ hx hb hr hlocks hP hS dX4_init_99 ?_
        exact ⟨fun j h9 => (hw9 j (by omega)).trans (hfr j h9), (hw9 _ (by omega)).trans f_L, fun k hk9 => by rcases (show k = 0 ∨ k = 1 by omega) with rfl | rfl; exact coinAt_fr (fun j h1 h2 => hw9 j (by omega)) (coin_D0 0 f_c1); exact coinAt_fr (fun j h1 h2 => hw9 j (by omega)) (coin_D0 1 f_c5), goodAt_fr (fun j h1 h2 => hw9 j (by omega)) (by rw [show clip 14 (D0 6) = (fun _ => 0) from clip_0 14, show clip 14 (D0 7) = (fun _ => 0) from clip_0 14]; exact f_g), va_up_self _ _ _, (hw9 _ (by omega)).trans (by rw [show clip 8 (D0 16) = (fun _ => 0) from clip_0 8]; exact f_dr), fun t ht9 => by rw [dTl_D0]; exact tillAt_fr (fun j h1 h2 => hw9 j (by omega)) (f_td t (by omega))⟩
      · skip
        refine lv_aload_n hx hb dX4_init_80 rfl (lv_at hl 0 rfl) ?_
        refine n_get hx hb hts u_X4 hown hK hP (by omega) f_L rfl 3 (by decide) (nT_m wf_X4_30) rfl dX4_init_81 ?_
        refine lv_iload_n hx hb dX4_init_84 rfl (lv_at hl 1 rfl) ?_
        refine n_new (M := 7) (ci := 5) (fs := [.null, .null, .null, .null, .int (iI 0), .long (jI 0), .long (jI 0)]) hE hx hb hts u_X5 tyX5 tyX5_ok hown (nT_m wq_X4_28) (nT_m wo_X5) (nT_m wn_X5) hK hsz (by omega) hP hS rfl (fun j9 hj9 => match j9, hj9 with | 0, _ => rfl | 1, _ => rfl | 2, _ => rfl | 3, _ => rfl | 4, _ => rfl | 5, _ => rfl | 6, _ => rfl | k9 + 7, h9 => absurd h9 (by omega)) (by show 13 + 9 * q + 1 ≤ 49; omega) (by show 4085 + 116 * q + 7 ≤ 4549; omega) dX4_init_85 (fun w41 H f_nt0 hne42 hP hS => ?_)
        have f_L := (hne42 i (by omega)).trans f_L
        have f_c1 : coinAt G ad w41 (i + 1) 0 (fun _ => 0) (fun _ => 0) (va_up (fillF (fun _ => 0) (-1) 2001) 0 0) := (coinAt_fr (fun j h1 h2 => hne42 j (by omega)) f_c1)
        have f_c5 : coinAt G ad w41 (i + 5) 0 (fun _ => 0) (fun _ => 0) (va_up (fillF (fun _ => 0) (-1) 2001) 0 0) := (coinAt_fr (fun j h1 h2 => hne42 j (by omega)) f_c5)
        have f_g : goodAt G ad w41 (i + 9) 0 (fun _ => 0) (fun _ => 0) := (goodAt_fr (fun j h1 h2 => hne42 j (by omega)) f_g)
        have f_ts := (hne42 (i + 12) (by omega)).trans f_ts
        have f_dr := (hne42 (i + 13) (by omega)).trans f_dr
        have f_td : ∀ t, t < q → tillAt G ad w41 (i + 14 + 9 * t) (fun _ _ => 0) := (fun t hk9 => tillAt_fr (fun j h1 h2 => hne42 j (by omega)) (f_td t hk9))
        have hfr : ∀ j, ¬ (i ≤ j) → w41 j = w j := fun j a0 => (hne42 j (by omega)).trans (hfr j a0)
        have hP : va_P G.1 vwCl (nL (i + 15 + 9 * q) ad w41) H := by first | exact hP | (rw [show i + 15 + 9 * q = i + 14 + 9 * q + 1 by omega]; exact hP)
        refine W.widen (k := 14 + 9 * q) (n := 4092 + 116 * q) (by omega) (by omega) ?_
        refine lv_dup hx hb dX4_init_88 rfl ?_
        refine n_sz hE hsz (by omega) (by omega) hP (fun hH => ?_)
        refine n_cN (va_runIN (As := []) (rest := [.ref (ad (i + 14 + 9 * q)), .int (iI ((q : Nat) : Int)), .ref (ad (i + 12))]) ⟨hx, hb, hml, hown, hts⟩ (c_X5_init ab (i + 14 + 9 * q) hE f_nt0) ⟨va_cnB 0 hts (nT_N wc_X5_init) rfl rfl rfl (hK.2 _ (List.mem_of_getElem? (i := 1) rfl)) (hts _ (nT_m wn_X5)) (by decide +kernel) ⟨Nat.le_of_ble_eq_true rfl, Nat.le_of_ble_eq_true rfl⟩, rfl, hts _ (nT_m wi_X5_init)⟩ (nBo.pre hE hK hO (by rw [hH]; omega) (by first | exact hP | (rw [show i + 14 + 9 * q + 1 = i + 15 + 9 * q by omega]; exact hP))) rfl rfl hl.1 rfl (lv_room (Nat.le_of_ble_eq_true rfl)) dX4_init_89 ⟨(by show 14 + 9 * q + 8 ≤ 49; omega), (by show 4092 + 116 * q + 109 ≤ 4549; omega)⟩) hS (fun w43 H locs hq44 hP hS => ?_)
        obtain ⟨hne45, hp9⟩ := hq44
        have f_L := (hne45 i (by omega)).trans f_L
        have f_c1 : coinAt G ad w43 (i + 1) 0 (fun _ => 0) (fun _ => 0) (va_up (fillF (fun _ => 0) (-1) 2001) 0 0) := (coinAt_fr (fun j h1 h2 => hne45 j (by omega)) f_c1)
        have f_c5 : coinAt G ad w43 (i + 5) 0 (fun _ => 0) (fun _ => 0) (va_up (fillF (fun _ => 0) (-1) 2001) 0 0) := (coinAt_fr (fun j h1 h2 => hne45 j (by omega)) f_c5)
        have f_g : goodAt G ad w43 (i + 9) 0 (fun _ => 0) (fun _ => 0) := (goodAt_fr (fun j h1 h2 => hne45 j (by omega)) f_g)
        have f_ts := (hne45 (i + 12) (by omega)).trans f_ts
        have f_dr := (hne45 (i + 13) (by omega)).trans f_dr
        have f_td : ∀ t, t < q → tillAt G ad w43 (i + 14 + 9 * t) (fun _ _ => 0) := (fun t hk9 => tillAt_fr (fun j h1 h2 => hne45 j (by omega)) (f_td t hk9))
        have hfr : ∀ j, ¬ (i ≤ j) → w43 j = w j := fun j a0 => (hne45 j (by omega)).trans (hfr j a0)
        have f_nt : tillAt G ad w43 (i + 14 + 9 * q) (fun _ _ => 0) := hp9
        have hP : va_P G.1 vwCl (nL (i + 15 + 9 * q + 8) ad w43) H := by first | exact hP | (rw [show i + 15 + 9 * q + 8 = (i + 14 + 9 * q) + 1 + 8 by omega]; exact hP)
        have hP : va_P G.1 vwCl (nL (i + 23 + 9 * q) ad w43) H := by first | exact hP | (rw [show i + 23 + 9 * q = i + 15 + 9 * q + 8 by omega]; exact hP)
        refine W.widen (k := 22 + 9 * q) (n := 4201 + 116 * q) (by omega) (by omega) ?_
        have hJ := nad_J hE (i + 23 + 9 * q)
        refine n_aast (r := (RX5, TX5, 7)) hx hb hK hJ hP hS q (by omega) f_ts rfl (by omega) f_nt.1 rfl (by omega) (by omega) (by decide) dX4_init_92 (fun w46 H locs f_ts hne47 hP hS => ?_)
        have f_L := (hne47 i (by omega)).trans f_L
        have f_c1 : coinAt G ad w46 (i + 1) 0 (fun _ => 0) (fun _ => 0) (va_up (fillF (fun _ => 0) (-1) 2001) 0 0) := (coinAt_fr (fun j h1 h2 => hne47 j (by omega)) f_c1)
        have f_c5 : coinAt G ad w46 (i + 5) 0 (fun _ => 0) (fun _ => 0) (va_up (fillF (fun _ => 0) (-1) 2001) 0 0) := (coinAt_fr (fun j h1 h2 => hne47 j (by omega)) f_c5)
        have f_g : goodAt G ad w46 (i + 9) 0 (fun _ => 0) (fun _ => 0) := (goodAt_fr (fun j h1 h2 => hne47 j (by omega)) f_g)
        have f_dr := (hne47 (i + 13) (by omega)).trans f_dr
        have f_td : ∀ t, t < q → tillAt G ad w46 (i + 14 + 9 * t) (fun _ _ => 0) := (fun t hk9 => tillAt_fr (fun j h1 h2 => hne47 j (by omega)) (f_td t hk9))
        have f_nt : tillAt G ad w46 (i + 14 + 9 * q) (fun _ _ => 0) := (tillAt_fr (fun j h1 h2 => hne47 j (by omega)) f_nt)
        have hfr : ∀ j, ¬ (i ≤ j) → w46 j = w j := fun j a0 => (hne47 j (by omega)).trans (hfr j a0)
        refine lv_iinc (v := iI (((q : Nat) : Int) + 1)) (lv' := [(1, .int (iI (((q : Nat) : Int) + 1))), (0, .ref (ad i))]) hx hb dX4_init_93 hl (k := 1) rfl (by first | exact iI_add _ _ | exact (iI_add _ _).trans (congrArg iI (by omega))) (by decide) rfl (fun ls hl => ?_)
        refine lv_goto (tgt := 75) hx hb dX4_init_96 (by decide) ?_
        have hP : va_P G.1 vwCl (nL (i + 14 + 9 * (q + 1)) ad w46) H := by rw [show i + 14 + 9 * (q + 1) = i + 23 + 9 * q by omega]; exact hP
        refine W.widen (k := 13 + 9 * (q + 1)) (n := 4085 + 116 * (q + 1)) (by omega) (by omega) ?_
        exact ih40 (q + 1) _ _ _ _ (by omega) (by omega) hfr f_L f_c1 f_c5 f_g (f_ts.trans (congrArg (aR G 3 4) (if_s (f := fun k => some (ad (i + 14 + 9 * k))) q))) f_dr (fun t h9 => (Decidable.em (t = q)).elim (fun e9 => by rw [e9]; exact f_nt) (fun e9 => f_td t (by omega))) hP hS (by first | exact lv_sub hl [1, 0] rfl | exact lv_cast (lv_sub (l' := [(0, .ref (ad i)), (1, .int (iI (((q : Nat) : Int) + 1)))]) hl [1, 0] rfl) (lc_s (lc_i (show ((((q : Nat) : Int) + 1) : Int) = (((q + 1) : Nat) : Int) by omega) rfl)))
  exact lp38 (4 - 0 + 1) 0 _ _ _ _ (Nat.lt_succ_self _) (by omega) hfr f_L f_c1 f_c5 f_g (f_ts.trans (congrArg (aR G 3 4) (funext fun k => (if_neg (Nat.not_lt_zero k)).symm))) f_dr (fun t h9 => absurd h9 (Nat.not_lt_zero _)) hP hS (by first | exact lv_sub hl [1, 0] rfl | exact lv_cast (lv_sub (l' := [(0, .ref (ad i)), (1, .int (iI 0))]) hl [1, 0] rfl) (lc_s (lc_i (show (0 : Int) = ((0 : Nat) : Int) by omega) rfl)))

def makAt (G : nG) (ad : Nat → Nat) (w : Nat → va_E) (i : Nat) (rz : Nat → Nat) (tb : Nat → Nat → Int) (P0 C0 : Nat → Int) : Prop := w i = .inr (0, [.ref (ad (i + 1)), .ref (ad (i + 2)), .ref (ad (i + 12)), .ref (ad (i + 13))]) ∧ w (i + 1) = aI G 8 (fun q => (rz q : Int)) ∧ w (i + 2) = aR G 5 9 (fun k => some (ad (i + 3 + k))) ∧ (∀ k, k < 9 → w (i + 3 + k) = aI G 2001 (tb k)) ∧ w (i + 12) = aI G 2001 P0 ∧ w (i + 13) = aI G 2001 C0
theorem makAt_fr {G : nG} {ad : Nat → Nat} {w w1 : Nat → va_E} {i : Nat} {rz : Nat → Nat} {tb : Nat → Nat → Int} {P0 C0 : Nat → Int} (hne : ∀ j, i ≤ j → j < i + 14 → w1 j = w j) (h : makAt G ad w i rz tb P0 C0) : makAt G ad w1 i rz tb P0 C0 := by
  obtain ⟨h0, h1, h2, h3, h4, h5⟩ := h
  exact ⟨(hne _ (by omega) (by omega)).trans h0, (hne _ (by omega) (by omega)).trans h1, (hne _ (by omega) (by omega)).trans h2, fun k hk => (hne _ (by omega) (by omega)).trans (h3 k hk), (hne _ (by omega) (by omega)).trans h4, (hne _ (by omega) (by omega)).trans h5⟩
set_option maxHeartbeats 4000000 in
set_option maxRecDepth 100000 in
theorem c_X0_init {l : Launch} {G : nG} {ad : Nat → Nat} {w : Nat → va_E} (ab i : Nat) (hE : ad = nad ab) (f_o : w i = .inr (0, [.null, .null, .null, .null])) : Met l yX0_init wsX0_init ({ frames := 1, cells := 13, slots := 22028, locals := 12 }) (va_Pc [.ref (ad i)] (nBo G ab (i + 1) ad w)) (nPn G ab (i + 1) 13 ad (fun u => (∀ j, ¬ (i ≤ j) → u j = w j) ∧ (makAt G ad u i (fun _ => 0) (fun _ _ => 0) (fun _ => 0) (fun _ => 0)))) 13 22028 (nF ab) := by
  refine n_entN (cc := cX0_init) (maxL := 1) (ret := (none : Option Jvm.ClassFile.FieldType)) (by decide) rfl (Nat.le_of_ble_eq_true rfl) ?_
  intro p e s m below meth cd hx hb hr hml hlocks hts hown hnm hsz hP hK hO Q hQ ls hl
  have hown : s.vm.findClass RX0 = some m.cls := hown
  have hS : va_S (nF ab) s.heap s.heap [] := va_S.rf
  have hfr : ∀ j, ¬ (i ≤ j) → w j = w j := fun _ _ => rfl
  have hl : lv_has ls 1 [(0, .ref (ad i))] := hl
  refine lv_aload_n hx hb dX0_init_0 rfl (lv_at hl 0 rfl) ?_
  refine W.objInit hx hb hown (hts _ (nT_m wl_X0_3)) (hts _ (nT_m wi_objectInit)) (hts _ (nT_m wc_objectInit)) rfl (hl.1.trans hml.symm) rfl dX0_init_1 (Nat.le_of_ble_eq_true rfl) (Nat.le_of_ble_eq_true rfl) ?_
  refine lv_aload_n hx hb dX0_init_4 rfl (lv_at hl 0 rfl) ?_
  refine n_bipush hx hb dX0_init_5 (by decide) ?_
  refine n_newa (atype := .int) (n := 8) (av := .inl (fun _ => iI 0)) hE hx hb (hts _ (nT_m wa_int)) rfl (fun C h9 => by cases h9) 0 rfl hK hsz (by omega) hP hS rfl (by decide) (fun cA => by rw [vp_cell_i]; rfl) (by decide) (by show 0 + 1 ≤ 13; omega) (by show 0 + 8 ≤ 22028; omega) dX0_init_7 (fun w1 H f_r hne2 hP hS => ?_)
  have f_r : w1 (i + 1) = aI G 8 (fun _ => 0) := f_r
  have f_o := (hne2 i (by omega)).trans f_o
  have hfr : ∀ j, ¬ (i ≤ j) → w1 j = w j := fun j a0 => (hne2 j (by omega)).trans (hfr j a0)
  have hP : va_P G.1 vwCl (nL (i + 2) ad w1) H := hP
  refine W.widen (k := 1) (n := 8) (by omega) (by omega) ?_
  have hJ := nad_J hE (i + 2)
  refine n_putF hx hb hts u_X0 tyX0 tyX0_ok nmX0 hown hK hJ hP hS (by omega) f_o rfl 0 (by decide) (nT_m wf_X0_9) rfl hnm rfl rfl rfl (Nat.le_of_ble_eq_true rfl) dX0_init_9 (fun w3 H locs f_o hne4 hP hS => ?_)
  have f_o : w3 i = .inr (0, [.ref (ad (i + 1)), .null, .null, .null]) := f_o
  have f_r := (hne4 (i + 1) (by omega)).trans f_r
  have hfr : ∀ j, ¬ (i ≤ j) → w3 j = w j := fun j a0 => (hne4 j (by omega)).trans (hfr j a0)
  refine lv_aload_n hx hb dX0_init_12 rfl (lv_at hl 0 rfl) ?_
  refine n_bipush hx hb dX0_init_13 (by decide) ?_
  refine n_sipush hx hb dX0_init_15 (by decide) ?_
  refine n_multi (n := 9) (M := 2001) hE hx hb hown (hts _ (nT_m wq_X0_15)) hO.2.2 (hts _ (nT_m wa_int)) hK hsz (by omega) (by omega) hP hS rfl rfl (by decide) (by decide) (by show 1 + 10 ≤ 13; omega) (by show 8 + 18018 ≤ 22028; omega) dX0_init_18 (fun w5 H locs f_g f_rw hne6 hP hS => ?_)
  have f_o := (hne6 i (by omega)).trans f_o
  have f_r := (hne6 (i + 1) (by omega)).trans f_r
  have hfr : ∀ j, ¬ (i ≤ j) → w5 j = w j := fun j a0 => (hne6 j (by omega)).trans (hfr j a0)
  have hP : va_P G.1 vwCl (nL (i + 12) ad w5) H := hP
  refine W.widen (k := 11) (n := 18026) (by omega) (by omega) ?_
  have hJ := nad_J hE (i + 12)
  refine n_putF hx hb hts u_X0 tyX0 tyX0_ok nmX0 hown hK hJ hP hS (by omega) f_o rfl 1 (by decide) (nT_m wf_X0_17) rfl hnm rfl rfl rfl (Nat.le_of_ble_eq_true rfl) dX0_init_22 (fun w7 H locs f_o hne8 hP hS => ?_)
  have f_o : w7 i = .inr (0, [.ref (ad (i + 1)), .ref (ad (i + 2)), .null, .null]) := f_o
  have f_r := (hne8 (i + 1) (by omega)).trans f_r
  have f_g := (hne8 (i + 2) (by omega)).trans f_g
  have f_rw : ∀ k, k < 9 → w7 (i + 2 + 1 + k) = aI G 2001 (fun _ => 0) := fun k hk9 => (hne8 _ (by omega)).trans (f_rw _ hk9)
  have hfr : ∀ j, ¬ (i ≤ j) → w7 j = w j := fun j a0 => (hne8 j (by omega)).trans (hfr j a0)
  refine lv_aload_n hx hb dX0_init_25 rfl (lv_at hl 0 rfl) ?_
  refine n_sipush hx hb dX0_init_26 (by decide) ?_
  refine n_newa (atype := .int) (n := 2001) (av := .inl (fun _ => iI 0)) hE hx hb (hts _ (nT_m wa_int)) rfl (fun C h9 => by cases h9) 0 rfl hK hsz (by omega) hP hS rfl (by decide) (fun cA => by rw [vp_cell_i]; rfl) (by decide) (by show 11 + 1 ≤ 13; omega) (by show 18026 + 2001 ≤ 22028; omega) dX0_init_29 (fun w9 H f_pl hne10 hP hS => ?_)
  have f_pl : w9 (i + 12) = aI G 2001 (fun _ => 0) := f_pl
  have f_o := (hne10 i (by omega)).trans f_o
  have f_r := (hne10 (i + 1) (by omega)).trans f_r
  have f_g := (hne10 (i + 2) (by omega)).trans f_g
  have f_rw : ∀ k, k < 9 → w9 (i + 2 + 1 + k) = aI G 2001 (fun _ => 0) := fun k hk9 => (hne10 _ (by omega)).trans (f_rw _ hk9)
  have hfr : ∀ j, ¬ (i ≤ j) → w9 j = w j := fun j a0 => (hne10 j (by omega)).trans (hfr j a0)
  have hP : va_P G.1 vwCl (nL (i + 13) ad w9) H := hP
  refine W.widen (k := 12) (n := 20027) (by omega) (by omega) ?_
  have hJ := nad_J hE (i + 13)
  refine n_putF hx hb hts u_X0 tyX0 tyX0_ok nmX0 hown hK hJ hP hS (by omega) f_o rfl 2 (by decide) (nT_m wf_X0_20) rfl hnm rfl rfl rfl (Nat.le_of_ble_eq_true rfl) dX0_init_31 (fun w11 H locs f_o hne12 hP hS => ?_)
  have f_o : w11 i = .inr (0, [.ref (ad (i + 1)), .ref (ad (i + 2)), .ref (ad (i + 12)), .null]) := f_o
  have f_r := (hne12 (i + 1) (by omega)).trans f_r
  have f_g := (hne12 (i + 2) (by omega)).trans f_g
  have f_rw : ∀ k, k < 9 → w11 (i + 2 + 1 + k) = aI G 2001 (fun _ => 0) := fun k hk9 => (hne12 _ (by omega)).trans (f_rw _ hk9)
  have f_pl := (hne12 (i + 12) (by omega)).trans f_pl
  have hfr : ∀ j, ¬ (i ≤ j) → w11 j = w j := fun j a0 => (hne12 j (by omega)).trans (hfr j a0)
  refine lv_aload_n hx hb dX0_init_34 rfl (lv_at hl 0 rfl) ?_
  refine n_sipush hx hb dX0_init_35 (by decide) ?_
  refine n_newa (atype := .int) (n := 2001) (av := .inl (fun _ => iI 0)) hE hx hb (hts _ (nT_m wa_int)) rfl (fun C h9 => by cases h9) 0 rfl hK hsz (by omega) hP hS rfl (by decide) (fun cA => by rw [vp_cell_i]; rfl) (by decide) (by show 12 + 1 ≤ 13; omega) (by show 20027 + 2001 ≤ 22028; omega) dX0_init_38 (fun w13 H f_co hne14 hP hS => ?_)
  have f_co : w13 (i + 13) = aI G 2001 (fun _ => 0) := f_co
  have f_o := (hne14 i (by omega)).trans f_o
  have f_r := (hne14 (i + 1) (by omega)).trans f_r
  have f_g := (hne14 (i + 2) (by omega)).trans f_g
  have f_rw : ∀ k, k < 9 → w13 (i + 2 + 1 + k) = aI G 2001 (fun _ => 0) := fun k hk9 => (hne14 _ (by omega)).trans (f_rw _ hk9)
  have f_pl := (hne14 (i + 12) (by omega)).trans f_pl
  have hfr : ∀ j, ¬ (i ≤ j) → w13 j = w j := fun j a0 => (hne14 j (by omega)).trans (hfr j a0)
  have hP : va_P G.1 vwCl (nL (i + 14) ad w13) H := hP
  refine W.widen (k := 13) (n := 22028) (by omega) (by omega) ?_
  have hJ := nad_J hE (i + 14)
  refine n_putF hx hb hts u_X0 tyX0 tyX0_ok nmX0 hown hK hJ hP hS (by omega) f_o rfl 3 (by decide) (nT_m wf_X0_23) rfl hnm rfl rfl rfl (Nat.le_of_ble_eq_true rfl) dX0_init_40 (fun w15 H locs f_o hne16 hP hS => ?_)
  have f_o : w15 i = .inr (0, [.ref (ad (i + 1)), .ref (ad (i + 2)), .ref (ad (i + 12)), .ref (ad (i + 13))]) := f_o
  have f_r := (hne16 (i + 1) (by omega)).trans f_r
  have f_g := (hne16 (i + 2) (by omega)).trans f_g
  have f_rw : ∀ k, k < 9 → w15 (i + 2 + 1 + k) = aI G 2001 (fun _ => 0) := fun k hk9 => (hne16 _ (by omega)).trans (f_rw _ hk9)
  have f_pl := (hne16 (i + 12) (by omega)).trans f_pl
  have f_co := (hne16 (i + 13) (by omega)).trans f_co
  have hfr : ∀ j, ¬ (i ≤ j) → w15 j = w j := fun j a0 => (hne16 j (by omega)).trans (hfr j a0)
  refine n_vretN (K := 13) hQ hx hb hr hlocks hP hS dX0_init_43 ?_
  exact ⟨hfr, f_o, f_r, f_g, f_rw, f_pl, f_co⟩
set_option maxHeartbeats 4000000 in
set_option maxRecDepth 100000 in
theorem c_X6_init {l : Launch} {G : nG} {ad : Nat → Nat} {w : Nat → va_E} (ab i : Nat) (hE : ad = nad ab) (f_o : w i = .inr (6, [.null, .null, .null, .null, .null, .null])) : Met l yX6_init wsX6_init ({ frames := 4, cells := 218, slots := 40292, locals := 73 }) (va_Pc [.ref (ad i)] (nBo G ab (i + 1) ad w)) (nPn G ab (i + 1) 218 ad (fun u => (∀ j, ¬ (i ≤ j) → u j = w j) ∧ (u i = .inr (6, [.ref (ad (i + 1)), .ref (ad (i + 51)), .ref (ad (i + 52)), .ref (ad (i + 53)), .ref (ad (i + 67)), .ref (ad (i + 68))])) ∧ (LandAt G ad u (i + 1) D0) ∧ (u (i + 51) = aR G 4 3 (fun k => some (ad (i + 69 + 50 * k)))) ∧ (u (i + 52) = aZ G 3 (fun q => (((fun _ => 0 : Nat → Nat) q : Nat) : Int))) ∧ (makAt G ad u (i + 53) (fun _ => 0) (fun _ _ => 0) (fun _ => 0) (fun _ => 0)) ∧ (u (i + 67) = aI G 8 (fun _ => 0)) ∧ (u (i + 68) = aJ G 14 (fun _ => 0)) ∧ (∀ k, k < 3 → LandAt G ad u (i + 69 + 50 * k) D0))) 218 40292 (nF ab) := by
  refine n_entN (cc := cX6_init) (maxL := 2) (ret := (none : Option Jvm.ClassFile.FieldType)) (by decide) rfl (Nat.le_of_ble_eq_true rfl) ?_
  intro p e s m below meth cd hx hb hr hml hlocks hts hown hnm hsz hP hK hO Q hQ ls hl
  have hown : s.vm.findClass RX6 = some m.cls := hown
  have hS : va_S (nF ab) s.heap s.heap [] := va_S.rf
  have hfr : ∀ j, ¬ (i ≤ j) → w j = w j := fun _ _ => rfl
  have hl : lv_has ls 2 [(0, .ref (ad i))] := hl
  refine lv_aload_n hx hb dX6_init_0 rfl (lv_at hl 0 rfl) ?_
  refine W.objInit hx hb hown (hts _ (nT_m wl_X6_1)) (hts _ (nT_m wi_objectInit)) (hts _ (nT_m wc_objectInit)) rfl (hl.1.trans hml.symm) rfl dX6_init_1 (Nat.le_of_ble_eq_true rfl) (Nat.le_of_ble_eq_true rfl) ?_
  refine lv_aload_n hx hb dX6_init_4 rfl (lv_at hl 0 rfl) ?_
  refine n_new (M := 9) (ci := 4) (fs := [.null, .null, .null, .null, .null, .int (iI 0), .int (iI 0), .int (iI 0), .int (iI 0)]) hE hx hb hts u_X4 tyX4 tyX4_ok hown (nT_m wq_X6_7) (nT_m wo_X4) (nT_m wn_X4) hK hsz (by omega) hP hS rfl (fun j9 hj9 => match j9, hj9 with | 0, _ => rfl | 1, _ => rfl | 2, _ => rfl | 3, _ => rfl | 4, _ => rfl | 5, _ => rfl | 6, _ => rfl | 7, _ => rfl | 8, _ => rfl | k9 + 9, h9 => absurd h9 (by omega)) (by show 0 + 1 ≤ 218; omega) (by show 0 + 9 ≤ 40292; omega) dX6_init_5 (fun w1 H f_n1 hne2 hP hS => ?_)
  have f_o := (hne2 i (by omega)).trans f_o
  have hfr : ∀ j, ¬ (i ≤ j) → w1 j = w j := fun j a0 => (hne2 j (by omega)).trans (hfr j a0)
  have hP : va_P G.1 vwCl (nL (i + 2) ad w1) H := hP
  refine W.widen (k := 1) (n := 9) (by omega) (by omega) ?_
  refine lv_dup hx hb dX6_init_8 rfl ?_
  refine n_sz hE hsz (by omega) (by omega) hP (fun hH => ?_)
  refine n_cN (va_runI (As := []) (rest := [.ref (ad (i + 1)), .ref (ad i)]) ⟨hx, hb, hml, hown, hts⟩ (c_X4_init ab (i + 1) hE f_n1) (cwI 0 hts (nT_N wc_X4_init) rfl rfl rfl (hts _ (nT_m wn_X4)) (hts _ (nT_m wl_X6_9)) (hts _ (nT_m wi_X4_init)) rfl (by decide +kernel) ⟨Nat.le_of_ble_eq_true rfl, Nat.le_of_ble_eq_true rfl⟩) (nBo.pre hE hK hO hH hP) rfl rfl hl.1 rfl (lv_room (Nat.le_of_ble_eq_true rfl)) dX6_init_9 ⟨(by show 1 + 49 ≤ 218; omega), (by show 9 + 4549 ≤ 40292; omega)⟩) hS (fun w3 H locs hq4 hP hS => ?_)
  obtain ⟨hne5, hp9⟩ := hq4
  have f_o := (hne5 i (by omega)).trans f_o
  have hfr : ∀ j, ¬ (i ≤ j) → w3 j = w j := fun j a0 => (hne5 j (by omega)).trans (hfr j a0)
  have f_nw : LandAt G ad w3 (i + 1) D0 := hp9
  have hP : va_P G.1 vwCl (nL (i + 51) ad w3) H := hP
  refine W.widen (k := 50) (n := 4558) (by omega) (by omega) ?_
  have hJ := nad_J hE (i + 51)
  refine n_putF hx hb hts u_X6 tyX6 tyX6_ok nmX6 hown hK hJ hP hS (by omega) f_o rfl 0 (by decide) (nT_m wf_X6_10) rfl hnm rfl rfl rfl (Nat.le_of_ble_eq_true rfl) dX6_init_12 (fun w6 H locs f_o hne7 hP hS => ?_)
  have f_o : w6 i = .inr (6, [.ref (ad (i + 1)), .null, .null, .null, .null, .null]) := f_o
  have f_nw : LandAt G ad w6 (i + 1) D0 := (LandAt_fr (fun j h1 h2 => hne7 j (by omega)) f_nw)
  have hfr : ∀ j, ¬ (i ≤ j) → w6 j = w j := fun j a0 => (hne7 j (by omega)).trans (hfr j a0)
  refine lv_aload_n hx hb dX6_init_15 rfl (lv_at hl 0 rfl) ?_
  refine n_iconst hx hb dX6_init_16 ?_
  refine n_newq (n := 3) hE hx hb hown (hts _ (nT_m wq_X6_7)) hO.2.1 4 rfl hK hsz (by omega) hP hS rfl (by decide) (by decide) (by show 50 + 1 ≤ 218; omega) (by show 4558 + 3 ≤ 40292; omega) dX6_init_17 (fun w8 H f_im hne9 hP hS => ?_)
  have f_o := (hne9 i (by omega)).trans f_o
  have f_nw : LandAt G ad w8 (i + 1) D0 := (LandAt_fr (fun j h1 h2 => hne9 j (by omega)) f_nw)
  have hfr : ∀ j, ¬ (i ≤ j) → w8 j = w j := fun j a0 => (hne9 j (by omega)).trans (hfr j a0)
  have hP : va_P G.1 vwCl (nL (i + 52) ad w8) H := hP
  refine W.widen (k := 51) (n := 4561) (by omega) (by omega) ?_
  have hJ := nad_J hE (i + 52)
  refine n_putF hx hb hts u_X6 tyX6 tyX6_ok nmX6 hown hK hJ hP hS (by omega) f_o rfl 1 (by decide) (nT_m wf_X6_16) rfl hnm rfl rfl rfl (Nat.le_of_ble_eq_true rfl) dX6_init_20 (fun w10 H locs f_o hne11 hP hS => ?_)
  have f_o : w10 i = .inr (6, [.ref (ad (i + 1)), .ref (ad (i + 51)), .null, .null, .null, .null]) := f_o
  have f_nw : LandAt G ad w10 (i + 1) D0 := (LandAt_fr (fun j h1 h2 => hne11 j (by omega)) f_nw)
  have f_im := (hne11 (i + 51) (by omega)).trans f_im
  have hfr : ∀ j, ¬ (i ≤ j) → w10 j = w j := fun j a0 => (hne11 j (by omega)).trans (hfr j a0)
  refine lv_aload_n hx hb dX6_init_23 rfl (lv_at hl 0 rfl) ?_
  refine n_iconst hx hb dX6_init_24 ?_
  refine n_newa (atype := .boolean) (n := 3) (av := .inl (fun _ => iI 0)) hE hx hb (hts _ (nT_m wa_boolean)) rfl (fun C h9 => by cases h9) 2 rfl hK hsz (by omega) hP hS rfl (by decide) (fun cA => by rw [vp_cell_i]; rfl) (by decide) (by show 51 + 1 ≤ 218; omega) (by show 4561 + 3 ≤ 40292; omega) dX6_init_25 (fun w12 H f_kp hne13 hP hS => ?_)
  have f_kp : w12 (i + 52) = aZ G 3 (fun _ => 0) := f_kp
  have f_o := (hne13 i (by omega)).trans f_o
  have f_nw : LandAt G ad w12 (i + 1) D0 := (LandAt_fr (fun j h1 h2 => hne13 j (by omega)) f_nw)
  have f_im := (hne13 (i + 51) (by omega)).trans f_im
  have hfr : ∀ j, ¬ (i ≤ j) → w12 j = w j := fun j a0 => (hne13 j (by omega)).trans (hfr j a0)
  have hP : va_P G.1 vwCl (nL (i + 53) ad w12) H := hP
  refine W.widen (k := 52) (n := 4564) (by omega) (by omega) ?_
  have hJ := nad_J hE (i + 53)
  refine n_putF hx hb hts u_X6 tyX6 tyX6_ok nmX6 hown hK hJ hP hS (by omega) f_o rfl 2 (by decide) (nT_m wf_X6_20) rfl hnm rfl rfl rfl (Nat.le_of_ble_eq_true rfl) dX6_init_27 (fun w14 H locs f_o hne15 hP hS => ?_)
  have f_o : w14 i = .inr (6, [.ref (ad (i + 1)), .ref (ad (i + 51)), .ref (ad (i + 52)), .null, .null, .null]) := f_o
  have f_nw : LandAt G ad w14 (i + 1) D0 := (LandAt_fr (fun j h1 h2 => hne15 j (by omega)) f_nw)
  have f_im := (hne15 (i + 51) (by omega)).trans f_im
  have f_kp := (hne15 (i + 52) (by omega)).trans f_kp
  have hfr : ∀ j, ¬ (i ≤ j) → w14 j = w j := fun j a0 => (hne15 j (by omega)).trans (hfr j a0)
  refine lv_aload_n hx hb dX6_init_30 rfl (lv_at hl 0 rfl) ?_
  refine n_new (M := 4) (ci := 0) (fs := [.null, .null, .null, .null]) hE hx hb hts u_X0 tyX0 tyX0_ok hown (nT_m wq_X6_24) (nT_m wo_X0) (nT_m wn_X0) hK hsz (by omega) hP hS rfl (fun j9 hj9 => match j9, hj9 with | 0, _ => rfl | 1, _ => rfl | 2, _ => rfl | 3, _ => rfl | k9 + 4, h9 => absurd h9 (by omega)) (by show 52 + 1 ≤ 218; omega) (by show 4564 + 4 ≤ 40292; omega) dX6_init_31 (fun w16 H f_n2 hne17 hP hS => ?_)
  have f_o := (hne17 i (by omega)).trans f_o
  have f_nw : LandAt G ad w16 (i + 1) D0 := (LandAt_fr (fun j h1 h2 => hne17 j (by omega)) f_nw)
  have f_im := (hne17 (i + 51) (by omega)).trans f_im
  have f_kp := (hne17 (i + 52) (by omega)).trans f_kp
  have hfr : ∀ j, ¬ (i ≤ j) → w16 j = w j := fun j a0 => (hne17 j (by omega)).trans (hfr j a0)
  have hP : va_P G.1 vwCl (nL (i + 54) ad w16) H := hP
  refine W.widen (k := 53) (n := 4568) (by omega) (by omega) ?_
  refine lv_dup hx hb dX6_init_34 rfl ?_
  refine n_sz hE hsz (by omega) (by omega) hP (fun hH => ?_)
  refine n_cN (va_runIN (As := []) (rest := [.ref (ad (i + 53)), .ref (ad i)]) ⟨hx, hb, hml, hown, hts⟩ (c_X0_init ab (i + 53) hE f_n2) ⟨va_cnB 0 hts (nT_N wc_X0_init) rfl rfl rfl (hK.2 _ (List.mem_of_getElem? (i := 3) rfl)) (hts _ (nT_m wn_X0)) (by decide +kernel) ⟨Nat.le_of_ble_eq_true rfl, Nat.le_of_ble_eq_true rfl⟩, rfl, hts _ (nT_m wi_X0_init)⟩ (nBo.pre hE hK hO hH hP) rfl rfl hl.1 rfl (lv_room (Nat.le_of_ble_eq_true rfl)) dX6_init_35 ⟨(by show 53 + 13 ≤ 218; omega), (by show 4568 + 22028 ≤ 40292; omega)⟩) hS (fun w18 H locs hq19 hP hS => ?_)
  obtain ⟨hne20, hp9⟩ := hq19
  have f_o := (hne20 i (by omega)).trans f_o
  have f_nw : LandAt G ad w18 (i + 1) D0 := (LandAt_fr (fun j h1 h2 => hne20 j (by omega)) f_nw)
  have f_im := (hne20 (i + 51) (by omega)).trans f_im
  have f_kp := (hne20 (i + 52) (by omega)).trans f_kp
  have hfr : ∀ j, ¬ (i ≤ j) → w18 j = w j := fun j a0 => (hne20 j (by omega)).trans (hfr j a0)
  have f_mk : makAt G ad w18 (i + 53) (fun _ => 0) (fun _ _ => 0) (fun _ => 0) (fun _ => 0) := hp9
  have hP : va_P G.1 vwCl (nL (i + 67) ad w18) H := hP
  refine W.widen (k := 66) (n := 26596) (by omega) (by omega) ?_
  have hJ := nad_J hE (i + 67)
  refine n_putF hx hb hts u_X6 tyX6 tyX6_ok nmX6 hown hK hJ hP hS (by omega) f_o rfl 3 (by decide) (nT_m wf_X6_27) rfl hnm rfl rfl rfl (Nat.le_of_ble_eq_true rfl) dX6_init_38 (fun w21 H locs f_o hne22 hP hS => ?_)
  have f_o : w21 i = .inr (6, [.ref (ad (i + 1)), .ref (ad (i + 51)), .ref (ad (i + 52)), .ref (ad (i + 53)), .null, .null]) := f_o
  have f_nw : LandAt G ad w21 (i + 1) D0 := (LandAt_fr (fun j h1 h2 => hne22 j (by omega)) f_nw)
  have f_im := (hne22 (i + 51) (by omega)).trans f_im
  have f_kp := (hne22 (i + 52) (by omega)).trans f_kp
  have f_mk : makAt G ad w21 (i + 53) (fun _ => 0) (fun _ _ => 0) (fun _ => 0) (fun _ => 0) := (makAt_fr (fun j h1 h2 => hne22 j (by omega)) f_mk)
  have hfr : ∀ j, ¬ (i ≤ j) → w21 j = w j := fun j a0 => (hne22 j (by omega)).trans (hfr j a0)
  refine lv_aload_n hx hb dX6_init_41 rfl (lv_at hl 0 rfl) ?_
  refine n_bipush hx hb dX6_init_42 (by decide) ?_
  refine n_newa (atype := .int) (n := 8) (av := .inl (fun _ => iI 0)) hE hx hb (hts _ (nT_m wa_int)) rfl (fun C h9 => by cases h9) 0 rfl hK hsz (by omega) hP hS rfl (by decide) (fun cA => by rw [vp_cell_i]; rfl) (by decide) (by show 66 + 1 ≤ 218; omega) (by show 26596 + 8 ≤ 40292; omega) dX6_init_44 (fun w23 H f_fr hne24 hP hS => ?_)
  have f_fr : w23 (i + 67) = aI G 8 (fun _ => 0) := f_fr
  have f_o := (hne24 i (by omega)).trans f_o
  have f_nw : LandAt G ad w23 (i + 1) D0 := (LandAt_fr (fun j h1 h2 => hne24 j (by omega)) f_nw)
  have f_im := (hne24 (i + 51) (by omega)).trans f_im
  have f_kp := (hne24 (i + 52) (by omega)).trans f_kp
  have f_mk : makAt G ad w23 (i + 53) (fun _ => 0) (fun _ _ => 0) (fun _ => 0) (fun _ => 0) := (makAt_fr (fun j h1 h2 => hne24 j (by omega)) f_mk)
  have hfr : ∀ j, ¬ (i ≤ j) → w23 j = w j := fun j a0 => (hne24 j (by omega)).trans (hfr j a0)
  have hP : va_P G.1 vwCl (nL (i + 68) ad w23) H := hP
  refine W.widen (k := 67) (n := 26604) (by omega) (by omega) ?_
  have hJ := nad_J hE (i + 68)
  refine n_putF hx hb hts u_X6 tyX6 tyX6_ok nmX6 hown hK hJ hP hS (by omega) f_o rfl 4 (by decide) (nT_m wf_X6_31) rfl hnm rfl rfl rfl (Nat.le_of_ble_eq_true rfl) dX6_init_46 (fun w25 H locs f_o hne26 hP hS => ?_)
  have f_o : w25 i = .inr (6, [.ref (ad (i + 1)), .ref (ad (i + 51)), .ref (ad (i + 52)), .ref (ad (i + 53)), .ref (ad (i + 67)), .null]) := f_o
  have f_nw : LandAt G ad w25 (i + 1) D0 := (LandAt_fr (fun j h1 h2 => hne26 j (by omega)) f_nw)
  have f_im := (hne26 (i + 51) (by omega)).trans f_im
  have f_kp := (hne26 (i + 52) (by omega)).trans f_kp
  have f_mk : makAt G ad w25 (i + 53) (fun _ => 0) (fun _ _ => 0) (fun _ => 0) (fun _ => 0) := (makAt_fr (fun j h1 h2 => hne26 j (by omega)) f_mk)
  have f_fr := (hne26 (i + 67) (by omega)).trans f_fr
  have hfr : ∀ j, ¬ (i ≤ j) → w25 j = w j := fun j a0 => (hne26 j (by omega)).trans (hfr j a0)
  refine lv_aload_n hx hb dX6_init_49 rfl (lv_at hl 0 rfl) ?_
  refine n_bipush hx hb dX6_init_50 (by decide) ?_
  refine n_newa (atype := .long) (n := 14) (av := .inr (.inl (fun _ => jI 0))) hE hx hb (hts _ (nT_m wa_long)) rfl (fun C h9 => by cases h9) 1 rfl hK hsz (by omega) hP hS rfl (by decide) (fun cA => by rw [vp_cell_l]; rfl) (by decide) (by show 67 + 1 ≤ 218; omega) (by show 26604 + 14 ≤ 40292; omega) dX6_init_52 (fun w27 H f_tu hne28 hP hS => ?_)
  have f_tu : w27 (i + 68) = aJ G 14 (fun _ => 0) := f_tu
  have f_o := (hne28 i (by omega)).trans f_o
  have f_nw : LandAt G ad w27 (i + 1) D0 := (LandAt_fr (fun j h1 h2 => hne28 j (by omega)) f_nw)
  have f_im := (hne28 (i + 51) (by omega)).trans f_im
  have f_kp := (hne28 (i + 52) (by omega)).trans f_kp
  have f_mk : makAt G ad w27 (i + 53) (fun _ => 0) (fun _ _ => 0) (fun _ => 0) (fun _ => 0) := (makAt_fr (fun j h1 h2 => hne28 j (by omega)) f_mk)
  have f_fr := (hne28 (i + 67) (by omega)).trans f_fr
  have hfr : ∀ j, ¬ (i ≤ j) → w27 j = w j := fun j a0 => (hne28 j (by omega)).trans (hfr j a0)
  have hP : va_P G.1 vwCl (nL (i + 69) ad w27) H := hP
  refine W.widen (k := 68) (n := 26618) (by omega) (by omega) ?_
  have hJ := nad_J hE (i + 69)
  refine n_putF hx hb hts u_X6 tyX6 tyX6_ok nmX6 hown hK hJ hP hS (by omega) f_o rfl 5 (by decide) (nT_m wf_X6_35) rfl hnm rfl rfl rfl (Nat.le_of_ble_eq_true rfl) dX6_init_54 (fun w29 H locs f_o hne30 hP hS => ?_)
  have f_o : w29 i = .inr (6, [.ref (ad (i + 1)), .ref (ad (i + 51)), .ref (ad (i + 52)), .ref (ad (i + 53)), .ref (ad (i + 67)), .ref (ad (i + 68))]) := f_o
  have f_nw : LandAt G ad w29 (i + 1) D0 := (LandAt_fr (fun j h1 h2 => hne30 j (by omega)) f_nw)
  have f_im := (hne30 (i + 51) (by omega)).trans f_im
  have f_kp := (hne30 (i + 52) (by omega)).trans f_kp
  have f_mk : makAt G ad w29 (i + 53) (fun _ => 0) (fun _ _ => 0) (fun _ => 0) (fun _ => 0) := (makAt_fr (fun j h1 h2 => hne30 j (by omega)) f_mk)
  have f_fr := (hne30 (i + 67) (by omega)).trans f_fr
  have f_tu := (hne30 (i + 68) (by omega)).trans f_tu
  have hfr : ∀ j, ¬ (i ≤ j) → w29 j = w j := fun j a0 => (hne30 j (by omega)).trans (hfr j a0)
  have f_ld : ∀ t, t < 0 → LandAt G ad w29 (i + 69 + 50 * t) D0 := fun t h9 => absurd h9 (Nat.not_lt_zero _)
  refine n_iconst hx hb dX6_init_57 ?_
  refine lv_istore_n (lv' := [(1, .int (iI 0)), (0, .ref (ad i))]) hx hb dX6_init_58 rfl hl (by decide) rfl (fun ls hl => ?_)
  have lp31 : ∀ (fu : Nat), ∀ (q : Nat), ∀ (w32 : Nat → va_E) (H : Heap) (locs : List Loc), ∀ (ls : Array Slot), 3 - q < fu → q ≤ 3 → (∀ j, ¬ (i ≤ j) → w32 j = w j) → w32 i = .inr (6, [.ref (ad (i + 1)), .ref (ad (i + 51)), .ref (ad (i + 52)), .ref (ad (i + 53)), .ref (ad (i + 67)), .ref (ad (i + 68))]) → LandAt G ad w32 (i + 1) D0 → w32 (i + 51) = aR G 4 3 (fun k => if k < q then some (ad (i + 69 + 50 * k)) else none) → w32 (i + 52) = aZ G 3 (fun _ => 0) → makAt G ad w32 (i + 53) (fun _ => 0) (fun _ _ => 0) (fun _ => 0) (fun _ => 0) → w32 (i + 67) = aI G 8 (fun _ => 0) → w32 (i + 68) = aJ G 14 (fun _ => 0) → (∀ t, t < q → LandAt G ad w32 (i + 69 + 50 * t) D0) → va_P G.1 vwCl (nL (i + 69 + 50 * q) ad w32) H → va_S (nF ab) s.heap H locs → lv_has ls 2 [(0, .ref (ad i)), (1, .int (iI ((q : Nat) : Int)))] → W p l e ({ frames := 4, cells := 218, slots := 40292, locals := 73 } : Room) s m ([.ref (ad i)] : List Value).toArray below meth cd H locs (68 + 50 * q) (26618 + 4558 * q) Q (F0 m 59 ls []) := by
    intro fu
    induction fu with
    | zero =>
      intro q w32 H locs ls hfu hq hfr f_o f_nw f_im f_kp f_mk f_fr f_tu f_ld hP hS hl
      exact absurd hfu (Nat.not_lt_zero _)
    | succ fu ih33 =>
      intro q w32 H locs ls hfu hq hfr f_o f_nw f_im f_kp f_mk f_fr f_tu f_ld hP hS hl
      refine lv_iload_n hx hb dX6_init_59 rfl (lv_at hl 1 rfl) ?_
      refine n_iconst hx hb dX6_init_60 ?_
      refine n_icmp_ge (tgt := 83) hx hb dX6_init_61 (by decide) (by omega) (by omega) (fun hc61 => ?_) (fun hc61 => ?_)
      · skip
        obtain rfl : q = 3 := by omega
        have hP := n_repR (f2 := fun k => some (ad (i + 69 + 50 * k))) (by omega) f_im (fun k hk9 => if_pos hk9) hP
        have hw9 : ∀ j, j ≠ i + 51 → va_up w32 (i + 51) (aR G 4 3 (fun k => some (ad (i + 69 + 50 * k)))) j = w32 j := fun j h9 => va_up_ne _ _ h9
        refine n_vretN (K := 218) hQ hx hb hr hlocks hP hS dX6_init_83 ?_
        exact ⟨fun j h9 => (hw9 j (by omega)).trans (hfr j h9), (hw9 _ (by omega)).trans f_o, LandAt_fr (fun j h1 h2 => hw9 j (by omega)) f_nw, va_up_self _ _ _, (hw9 _ (by omega)).trans f_kp, makAt_fr (fun j h1 h2 => hw9 j (by omega)) f_mk, (hw9 _ (by omega)).trans f_fr, (hw9 _ (by omega)).trans f_tu, fun k hk9 => LandAt_fr (fun j h1 h2 => hw9 j (by omega)) (f_ld k (by omega))⟩
      · skip
        refine lv_aload_n hx hb dX6_init_64 rfl (lv_at hl 0 rfl) ?_
        refine n_get hx hb hts u_X6 hown hK hP (by omega) f_o rfl 1 (by decide) (nT_m wf_X6_16) rfl dX6_init_65 ?_
        refine lv_iload_n hx hb dX6_init_68 rfl (lv_at hl 1 rfl) ?_
        refine n_new (M := 9) (ci := 4) (fs := [.null, .null, .null, .null, .null, .int (iI 0), .int (iI 0), .int (iI 0), .int (iI 0)]) hE hx hb hts u_X4 tyX4 tyX4_ok hown (nT_m wq_X6_7) (nT_m wo_X4) (nT_m wn_X4) hK hsz (by omega) hP hS rfl (fun j9 hj9 => match j9, hj9 with | 0, _ => rfl | 1, _ => rfl | 2, _ => rfl | 3, _ => rfl | 4, _ => rfl | 5, _ => rfl | 6, _ => rfl | 7, _ => rfl | 8, _ => rfl | k9 + 9, h9 => absurd h9 (by omega)) (by show 68 + 50 * q + 1 ≤ 218; omega) (by show 26618 + 4558 * q + 9 ≤ 40292; omega) dX6_init_69 (fun w34 H f_n3 hne35 hP hS => ?_)
        have f_o := (hne35 i (by omega)).trans f_o
        have f_nw : LandAt G ad w34 (i + 1) D0 := (LandAt_fr (fun j h1 h2 => hne35 j (by omega)) f_nw)
        have f_im := (hne35 (i + 51) (by omega)).trans f_im
        have f_kp := (hne35 (i + 52) (by omega)).trans f_kp
        have f_mk : makAt G ad w34 (i + 53) (fun _ => 0) (fun _ _ => 0) (fun _ => 0) (fun _ => 0) := (makAt_fr (fun j h1 h2 => hne35 j (by omega)) f_mk)
        have f_fr := (hne35 (i + 67) (by omega)).trans f_fr
        have f_tu := (hne35 (i + 68) (by omega)).trans f_tu
        have f_ld : ∀ t, t < q → LandAt G ad w34 (i + 69 + 50 * t) D0 := (fun t hk9 => LandAt_fr (fun j h1 h2 => hne35 j (by omega)) (f_ld t hk9))
        have hfr : ∀ j, ¬ (i ≤ j) → w34 j = w j := fun j a0 => (hne35 j (by omega)).trans (hfr j a0)
        have hP : va_P G.1 vwCl (nL (i + 70 + 50 * q) ad w34) H := by first | exact hP | (rw [show i + 70 + 50 * q = i + 69 + 50 * q + 1 by omega]; exact hP)
        refine W.widen (k := 69 + 50 * q) (n := 26627 + 4558 * q) (by omega) (by omega) ?_
        refine lv_dup hx hb dX6_init_72 rfl ?_
        refine n_sz hE hsz (by omega) (by omega) hP (fun hH => ?_)
        refine n_cN (va_runI (As := []) (rest := [.ref (ad (i + 69 + 50 * q)), .int (iI ((q : Nat) : Int)), .ref (ad (i + 51))]) ⟨hx, hb, hml, hown, hts⟩ (c_X4_init ab (i + 69 + 50 * q) hE f_n3) (cwI 0 hts (nT_N wc_X4_init) rfl rfl rfl (hts _ (nT_m wn_X4)) (hts _ (nT_m wl_X6_9)) (hts _ (nT_m wi_X4_init)) rfl (by decide +kernel) ⟨Nat.le_of_ble_eq_true rfl, Nat.le_of_ble_eq_true rfl⟩) (nBo.pre hE hK hO (by rw [hH]; omega) (by first | exact hP | (rw [show i + 69 + 50 * q + 1 = i + 70 + 50 * q by omega]; exact hP))) rfl rfl hl.1 rfl (lv_room (Nat.le_of_ble_eq_true rfl)) dX6_init_73 ⟨(by show 69 + 50 * q + 49 ≤ 218; omega), (by show 26627 + 4558 * q + 4549 ≤ 40292; omega)⟩) hS (fun w36 H locs hq37 hP hS => ?_)
        obtain ⟨hne38, hp9⟩ := hq37
        have f_o := (hne38 i (by omega)).trans f_o
        have f_nw : LandAt G ad w36 (i + 1) D0 := (LandAt_fr (fun j h1 h2 => hne38 j (by omega)) f_nw)
        have f_im := (hne38 (i + 51) (by omega)).trans f_im
        have f_kp := (hne38 (i + 52) (by omega)).trans f_kp
        have f_mk : makAt G ad w36 (i + 53) (fun _ => 0) (fun _ _ => 0) (fun _ => 0) (fun _ => 0) := (makAt_fr (fun j h1 h2 => hne38 j (by omega)) f_mk)
        have f_fr := (hne38 (i + 67) (by omega)).trans f_fr
        have f_tu := (hne38 (i + 68) (by omega)).trans f_tu
        have f_ld : ∀ t, t < q → LandAt G ad w36 (i + 69 + 50 * t) D0 := (fun t hk9 => LandAt_fr (fun j h1 h2 => hne38 j (by omega)) (f_ld t hk9))
        have hfr : ∀ j, ¬ (i ≤ j) → w36 j = w j := fun j a0 => (hne38 j (by omega)).trans (hfr j a0)
        have f_nl : LandAt G ad w36 (i + 69 + 50 * q) D0 := hp9
        have hP : va_P G.1 vwCl (nL (i + 70 + 50 * q + 49) ad w36) H := by first | exact hP | (rw [show i + 70 + 50 * q + 49 = (i + 69 + 50 * q) + 1 + 49 by omega]; exact hP)
        have hP : va_P G.1 vwCl (nL (i + 119 + 50 * q) ad w36) H := by first | exact hP | (rw [show i + 119 + 50 * q = i + 70 + 50 * q + 49 by omega]; exact hP)
        refine W.widen (k := 118 + 50 * q) (n := 31176 + 4558 * q) (by omega) (by omega) ?_
        have hJ := nad_J hE (i + 119 + 50 * q)
        refine n_aast (r := (RX4, TX4, 9)) hx hb hK hJ hP hS q (by omega) f_im rfl (by omega) f_nl.1 rfl (by omega) (by omega) (by decide) dX6_init_76 (fun w39 H locs f_im hne40 hP hS => ?_)
        have f_o := (hne40 i (by omega)).trans f_o
        have f_nw : LandAt G ad w39 (i + 1) D0 := (LandAt_fr (fun j h1 h2 => hne40 j (by omega)) f_nw)
        have f_kp := (hne40 (i + 52) (by omega)).trans f_kp
        have f_mk : makAt G ad w39 (i + 53) (fun _ => 0) (fun _ _ => 0) (fun _ => 0) (fun _ => 0) := (makAt_fr (fun j h1 h2 => hne40 j (by omega)) f_mk)
        have f_fr := (hne40 (i + 67) (by omega)).trans f_fr
        have f_tu := (hne40 (i + 68) (by omega)).trans f_tu
        have f_ld : ∀ t, t < q → LandAt G ad w39 (i + 69 + 50 * t) D0 := (fun t hk9 => LandAt_fr (fun j h1 h2 => hne40 j (by omega)) (f_ld t hk9))
        have f_nl : LandAt G ad w39 (i + 69 + 50 * q) D0 := (LandAt_fr (fun j h1 h2 => hne40 j (by omega)) f_nl)
        have hfr : ∀ j, ¬ (i ≤ j) → w39 j = w j := fun j a0 => (hne40 j (by omega)).trans (hfr j a0)
        refine lv_iinc (v := iI (((q : Nat) : Int) + 1)) (lv' := [(1, .int (iI (((q : Nat) : Int) + 1))), (0, .ref (ad i))]) hx hb dX6_init_77 hl (k := 1) rfl (by first | exact iI_add _ _ | exact (iI_add _ _).trans (congrArg iI (by omega))) (by decide) rfl (fun ls hl => ?_)
        refine lv_goto (tgt := 59) hx hb dX6_init_80 (by decide) ?_
        have hP : va_P G.1 vwCl (nL (i + 69 + 50 * (q + 1)) ad w39) H := by rw [show i + 69 + 50 * (q + 1) = i + 119 + 50 * q by omega]; exact hP
        refine W.widen (k := 68 + 50 * (q + 1)) (n := 26618 + 4558 * (q + 1)) (by omega) (by omega) ?_
        exact ih33 (q + 1) _ _ _ _ (by omega) (by omega) hfr f_o f_nw (f_im.trans (congrArg (aR G 4 3) (if_s (f := fun k => some (ad (i + 69 + 50 * k))) q))) f_kp f_mk f_fr f_tu (fun t h9 => (Decidable.em (t = q)).elim (fun e9 => by rw [e9]; exact f_nl) (fun e9 => f_ld t (by omega))) hP hS (by first | exact lv_sub hl [1, 0] rfl | exact lv_cast (lv_sub (l' := [(0, .ref (ad i)), (1, .int (iI (((q : Nat) : Int) + 1)))]) hl [1, 0] rfl) (lc_s (lc_i (show ((((q : Nat) : Int) + 1) : Int) = (((q + 1) : Nat) : Int) by omega) rfl)))
  exact lp31 (3 - 0 + 1) 0 _ _ _ _ (Nat.lt_succ_self _) (by omega) hfr f_o f_nw (f_im.trans (congrArg (aR G 4 3) (funext fun k => (if_neg (Nat.not_lt_zero k)).symm))) f_kp f_mk f_fr f_tu (fun t h9 => absurd h9 (Nat.not_lt_zero _)) hP hS (by first | exact lv_sub hl [1, 0] rfl | exact lv_cast (lv_sub (l' := [(0, .ref (ad i)), (1, .int (iI 0))]) hl [1, 0] rfl) (lc_s (lc_i (show (0 : Int) = ((0 : Nat) : Int) by omega) rfl)))
set_option maxHeartbeats 4000000 in
set_option maxRecDepth 100000 in
theorem c_X7_init {l : Launch} {G : nG} {ad : Nat → Nat} {w : Nat → va_E} (ab i : Nat) (hE : ad = nad ab) (f_y : w i = .inr (7, [.int (iI 0), .null, .null, .null, .null, .null, .null, .null, .null, .null, .null, .null, .null, .null, .null, .null, .null, .null, .null, .null, .null, .null, .null, .null, .null, .null, .null])) : Met l yX7_init wsX7_init ({ frames := 1, cells := 26, slots := 22049, locals := 12 }) (va_Pc [.ref (ad i)] (nBo G ab (i + 1) ad w)) (nPn G ab (i + 1) 26 ad (fun u => (∀ j, ¬ (i ≤ j) → u j = w j) ∧ (u i = .inr (7, [.int (iI 0), .ref (ad (i + 1)), .ref (ad (i + 2)), .ref (ad (i + 3)), .ref (ad (i + 4)), .ref (ad (i + 5)), .ref (ad (i + 6)), .ref (ad (i + 7)), .ref (ad (i + 8)), .ref (ad (i + 9)), .ref (ad (i + 10)), .ref (ad (i + 11)), .ref (ad (i + 12)), .ref (ad (i + 13)), .ref (ad (i + 14)), .ref (ad (i + 15)), .ref (ad (i + 16)), .ref (ad (i + 17)), .ref (ad (i + 18)), .ref (ad (i + 19)), .ref (ad (i + 20)), .ref (ad (i + 21)), .ref (ad (i + 22)), .ref (ad (i + 23)), .ref (ad (i + 24)), .ref (ad (i + 25)), .ref (ad (i + 26))])) ∧ (u (i + 1) = aI G 8 (fun _ => 0)) ∧ (u (i + 2) = aI G 64 (fun _ => 0)) ∧ (u (i + 3) = aI G 8 (va_up (va_up (fun _ => 0) 0 1) 1 1)) ∧ (u (i + 4) = aI G 4 (fun _ => 0)) ∧ (u (i + 5) = aI G 4 (fun _ => 0)) ∧ (u (i + 6) = aI G 56 (fun _ => 0)) ∧ (u (i + 7) = aI G 56 (fun _ => 0)) ∧ (u (i + 8) = aI G 4 (va_up (fun _ => 0) 0 1)) ∧ (u (i + 9) = aI G 4 (fun _ => 0)) ∧ (u (i + 10) = aI G 16 (fun _ => 0)) ∧ (u (i + 11) = aJ G 16 (fun _ => 0)) ∧ (u (i + 12) = aJ G 16 (fun _ => 0)) ∧ (u (i + 13) = aI G 16 (fun _ => 0)) ∧ (u (i + 14) = aI G 256 (fun _ => 0)) ∧ (u (i + 15) = aI G 128 (fun _ => 0)) ∧ (u (i + 16) = aI G 32 (fun _ => 0)) ∧ (u (i + 17) = aI G 1280 (fun _ => 0)) ∧ (u (i + 18) = aJ G 28 (fun _ => 0)) ∧ (u (i + 19) = aI G 8 (fun _ => 0)) ∧ (u (i + 20) = aI G 18009 (fun _ => 0)) ∧ (u (i + 21) = aI G 8 (fun _ => 0)) ∧ (u (i + 22) = aI G 8 (fun _ => 0)) ∧ (u (i + 23) = aI G 2001 (fun _ => 0)) ∧ (u (i + 24) = aI G 8 (fun _ => 0)) ∧ (u (i + 25) = aI G 8 (fun _ => 0)) ∧ (u (i + 26) = aZ G 3 (fun _ => 0)))) 26 22049 (nF ab) := by
  refine n_entN (cc := cX7_init) (maxL := 1) (ret := (none : Option Jvm.ClassFile.FieldType)) (by decide) rfl (Nat.le_of_ble_eq_true rfl) ?_
  intro p e s m below meth cd hx hb hr hml hlocks hts hown hnm hsz hP hK hO Q hQ ls hl
  have hown : s.vm.findClass RX7 = some m.cls := hown
  have hS : va_S (nF ab) s.heap s.heap [] := va_S.rf
  have hfr : ∀ j, ¬ (i ≤ j) → w j = w j := fun _ _ => rfl
  have hl : lv_has ls 1 [(0, .ref (ad i))] := hl
  refine lv_aload_n hx hb dX7_init_0 rfl (lv_at hl 0 rfl) ?_
  refine W.objInit hx hb hown (hts _ (nT_m wl_X7_1)) (hts _ (nT_m wi_objectInit)) (hts _ (nT_m wc_objectInit)) rfl (hl.1.trans hml.symm) rfl dX7_init_1 (Nat.le_of_ble_eq_true rfl) (Nat.le_of_ble_eq_true rfl) ?_
  refine lv_aload_n hx hb dX7_init_4 rfl (lv_at hl 0 rfl) ?_
  refine n_bipush hx hb dX7_init_5 (by decide) ?_
  refine n_newa (atype := .int) (n := 8) (av := .inl (fun _ => iI 0)) hE hx hb (hts _ (nT_m wa_int)) rfl (fun C h9 => by cases h9) 0 rfl hK hsz (by omega) hP hS rfl (by decide) (fun cA => by rw [vp_cell_i]; rfl) (by decide) (by show 0 + 1 ≤ 26; omega) (by show 0 + 8 ≤ 22049; omega) dX7_init_7 (fun w1 H f_coins hne2 hP hS => ?_)
  have f_coins : w1 (i + 1) = aI G 8 (fun _ => 0) := f_coins
  have f_y := (hne2 i (by omega)).trans f_y
  have hfr : ∀ j, ¬ (i ≤ j) → w1 j = w j := fun j a0 => (hne2 j (by omega)).trans (hfr j a0)
  have hP : va_P G.1 vwCl (nL (i + 2) ad w1) H := hP
  refine W.widen (k := 1) (n := 8) (by omega) (by omega) ?_
  have hJ := nad_J hE (i + 2)
  refine n_putF hx hb hts u_X7 tyX7 tyX7_ok nmX7 hown hK hJ hP hS (by omega) f_y rfl 1 (by decide) (nT_m wf_X7_7) rfl hnm rfl rfl rfl (Nat.le_of_ble_eq_true rfl) dX7_init_9 (fun w3 H locs f_y hne4 hP hS => ?_)
  have f_y : w3 i = .inr (7, [.int (iI 0), .ref (ad (i + 1)), .null, .null, .null, .null, .null, .null, .null, .null, .null, .null, .null, .null, .null, .null, .null, .null, .null, .null, .null, .null, .null, .null, .null, .null, .null]) := f_y
  have f_coins := (hne4 (i + 1) (by omega)).trans f_coins
  have hfr : ∀ j, ¬ (i ≤ j) → w3 j = w j := fun j a0 => (hne4 j (by omega)).trans (hfr j a0)
  refine lv_aload_n hx hb dX7_init_12 rfl (lv_at hl 0 rfl) ?_
  refine n_bipush hx hb dX7_init_13 (by decide) ?_
  refine n_newa (atype := .int) (n := 64) (av := .inl (fun _ => iI 0)) hE hx hb (hts _ (nT_m wa_int)) rfl (fun C h9 => by cases h9) 0 rfl hK hsz (by omega) hP hS rfl (by decide) (fun cA => by rw [vp_cell_i]; rfl) (by decide) (by show 1 + 1 ≤ 26; omega) (by show 8 + 64 ≤ 22049; omega) dX7_init_15 (fun w5 H f_value hne6 hP hS => ?_)
  have f_value : w5 (i + 2) = aI G 64 (fun _ => 0) := f_value
  have f_y := (hne6 i (by omega)).trans f_y
  have f_coins := (hne6 (i + 1) (by omega)).trans f_coins
  have hfr : ∀ j, ¬ (i ≤ j) → w5 j = w j := fun j a0 => (hne6 j (by omega)).trans (hfr j a0)
  have hP : va_P G.1 vwCl (nL (i + 3) ad w5) H := hP
  refine W.widen (k := 2) (n := 72) (by omega) (by omega) ?_
  have hJ := nad_J hE (i + 3)
  refine n_putF hx hb hts u_X7 tyX7 tyX7_ok nmX7 hown hK hJ hP hS (by omega) f_y rfl 2 (by decide) (nT_m wf_X7_13) rfl hnm rfl rfl rfl (Nat.le_of_ble_eq_true rfl) dX7_init_17 (fun w7 H locs f_y hne8 hP hS => ?_)
  have f_y : w7 i = .inr (7, [.int (iI 0), .ref (ad (i + 1)), .ref (ad (i + 2)), .null, .null, .null, .null, .null, .null, .null, .null, .null, .null, .null, .null, .null, .null, .null, .null, .null, .null, .null, .null, .null, .null, .null, .null]) := f_y
  have f_coins := (hne8 (i + 1) (by omega)).trans f_coins
  have f_value := (hne8 (i + 2) (by omega)).trans f_value
  have hfr : ∀ j, ¬ (i ≤ j) → w7 j = w j := fun j a0 => (hne8 j (by omega)).trans (hfr j a0)
  refine lv_aload_n hx hb dX7_init_20 rfl (lv_at hl 0 rfl) ?_
  refine n_bipush hx hb dX7_init_21 (by decide) ?_
  refine n_newa (atype := .int) (n := 8) (av := .inl (fun _ => iI 0)) hE hx hb (hts _ (nT_m wa_int)) rfl (fun C h9 => by cases h9) 0 rfl hK hsz (by omega) hP hS rfl (by decide) (fun cA => by rw [vp_cell_i]; rfl) (by decide) (by show 2 + 1 ≤ 26; omega) (by show 72 + 8 ≤ 22049; omega) dX7_init_23 (fun w9 H f_rates hne10 hP hS => ?_)
  have f_rates : w9 (i + 3) = aI G 8 (fun _ => 0) := f_rates
  have f_y := (hne10 i (by omega)).trans f_y
  have f_coins := (hne10 (i + 1) (by omega)).trans f_coins
  have f_value := (hne10 (i + 2) (by omega)).trans f_value
  have hfr : ∀ j, ¬ (i ≤ j) → w9 j = w j := fun j a0 => (hne10 j (by omega)).trans (hfr j a0)
  have hP : va_P G.1 vwCl (nL (i + 4) ad w9) H := hP
  refine W.widen (k := 3) (n := 80) (by omega) (by omega) ?_
  have hJ := nad_J hE (i + 4)
  refine n_putF hx hb hts u_X7 tyX7 tyX7_ok nmX7 hown hK hJ hP hS (by omega) f_y rfl 3 (by decide) (nT_m wf_X7_16) rfl hnm rfl rfl rfl (Nat.le_of_ble_eq_true rfl) dX7_init_25 (fun w11 H locs f_y hne12 hP hS => ?_)
  have f_y : w11 i = .inr (7, [.int (iI 0), .ref (ad (i + 1)), .ref (ad (i + 2)), .ref (ad (i + 3)), .null, .null, .null, .null, .null, .null, .null, .null, .null, .null, .null, .null, .null, .null, .null, .null, .null, .null, .null, .null, .null, .null, .null]) := f_y
  have f_coins := (hne12 (i + 1) (by omega)).trans f_coins
  have f_value := (hne12 (i + 2) (by omega)).trans f_value
  have f_rates := (hne12 (i + 3) (by omega)).trans f_rates
  have hfr : ∀ j, ¬ (i ≤ j) → w11 j = w j := fun j a0 => (hne12 j (by omega)).trans (hfr j a0)
  refine lv_aload_n hx hb dX7_init_28 rfl (lv_at hl 0 rfl) ?_
  refine n_iconst hx hb dX7_init_29 ?_
  refine n_newa (atype := .int) (n := 4) (av := .inl (fun _ => iI 0)) hE hx hb (hts _ (nT_m wa_int)) rfl (fun C h9 => by cases h9) 0 rfl hK hsz (by omega) hP hS rfl (by decide) (fun cA => by rw [vp_cell_i]; rfl) (by decide) (by show 3 + 1 ≤ 26; omega) (by show 80 + 4 ≤ 22049; omega) dX7_init_30 (fun w13 H f_sales hne14 hP hS => ?_)
  have f_sales : w13 (i + 4) = aI G 4 (fun _ => 0) := f_sales
  have f_y := (hne14 i (by omega)).trans f_y
  have f_coins := (hne14 (i + 1) (by omega)).trans f_coins
  have f_value := (hne14 (i + 2) (by omega)).trans f_value
  have f_rates := (hne14 (i + 3) (by omega)).trans f_rates
  have hfr : ∀ j, ¬ (i ≤ j) → w13 j = w j := fun j a0 => (hne14 j (by omega)).trans (hfr j a0)
  have hP : va_P G.1 vwCl (nL (i + 5) ad w13) H := hP
  refine W.widen (k := 4) (n := 84) (by omega) (by omega) ?_
  have hJ := nad_J hE (i + 5)
  refine n_putF hx hb hts u_X7 tyX7 tyX7_ok nmX7 hown hK hJ hP hS (by omega) f_y rfl 4 (by decide) (nT_m wf_X7_19) rfl hnm rfl rfl rfl (Nat.le_of_ble_eq_true rfl) dX7_init_32 (fun w15 H locs f_y hne16 hP hS => ?_)
  have f_y : w15 i = .inr (7, [.int (iI 0), .ref (ad (i + 1)), .ref (ad (i + 2)), .ref (ad (i + 3)), .ref (ad (i + 4)), .null, .null, .null, .null, .null, .null, .null, .null, .null, .null, .null, .null, .null, .null, .null, .null, .null, .null, .null, .null, .null, .null]) := f_y
  have f_coins := (hne16 (i + 1) (by omega)).trans f_coins
  have f_value := (hne16 (i + 2) (by omega)).trans f_value
  have f_rates := (hne16 (i + 3) (by omega)).trans f_rates
  have f_sales := (hne16 (i + 4) (by omega)).trans f_sales
  have hfr : ∀ j, ¬ (i ≤ j) → w15 j = w j := fun j a0 => (hne16 j (by omega)).trans (hfr j a0)
  refine lv_aload_n hx hb dX7_init_35 rfl (lv_at hl 0 rfl) ?_
  refine n_iconst hx hb dX7_init_36 ?_
  refine n_newa (atype := .int) (n := 4) (av := .inl (fun _ => iI 0)) hE hx hb (hts _ (nT_m wa_int)) rfl (fun C h9 => by cases h9) 0 rfl hK hsz (by omega) hP hS rfl (by decide) (fun cA => by rw [vp_cell_i]; rfl) (by decide) (by show 4 + 1 ≤ 26; omega) (by show 84 + 4 ≤ 22049; omega) dX7_init_37 (fun w17 H f_goods hne18 hP hS => ?_)
  have f_goods : w17 (i + 5) = aI G 4 (fun _ => 0) := f_goods
  have f_y := (hne18 i (by omega)).trans f_y
  have f_coins := (hne18 (i + 1) (by omega)).trans f_coins
  have f_value := (hne18 (i + 2) (by omega)).trans f_value
  have f_rates := (hne18 (i + 3) (by omega)).trans f_rates
  have f_sales := (hne18 (i + 4) (by omega)).trans f_sales
  have hfr : ∀ j, ¬ (i ≤ j) → w17 j = w j := fun j a0 => (hne18 j (by omega)).trans (hfr j a0)
  have hP : va_P G.1 vwCl (nL (i + 6) ad w17) H := hP
  refine W.widen (k := 5) (n := 88) (by omega) (by omega) ?_
  have hJ := nad_J hE (i + 6)
  refine n_putF hx hb hts u_X7 tyX7 tyX7_ok nmX7 hown hK hJ hP hS (by omega) f_y rfl 5 (by decide) (nT_m wf_X7_22) rfl hnm rfl rfl rfl (Nat.le_of_ble_eq_true rfl) dX7_init_39 (fun w19 H locs f_y hne20 hP hS => ?_)
  have f_y : w19 i = .inr (7, [.int (iI 0), .ref (ad (i + 1)), .ref (ad (i + 2)), .ref (ad (i + 3)), .ref (ad (i + 4)), .ref (ad (i + 5)), .null, .null, .null, .null, .null, .null, .null, .null, .null, .null, .null, .null, .null, .null, .null, .null, .null, .null, .null, .null, .null]) := f_y
  have f_coins := (hne20 (i + 1) (by omega)).trans f_coins
  have f_value := (hne20 (i + 2) (by omega)).trans f_value
  have f_rates := (hne20 (i + 3) (by omega)).trans f_rates
  have f_sales := (hne20 (i + 4) (by omega)).trans f_sales
  have f_goods := (hne20 (i + 5) (by omega)).trans f_goods
  have hfr : ∀ j, ¬ (i ≤ j) → w19 j = w j := fun j a0 => (hne20 j (by omega)).trans (hfr j a0)
  refine lv_aload_n hx hb dX7_init_42 rfl (lv_at hl 0 rfl) ?_
  refine n_bipush hx hb dX7_init_43 (by decide) ?_
  refine n_newa (atype := .int) (n := 56) (av := .inl (fun _ => iI 0)) hE hx hb (hts _ (nT_m wa_int)) rfl (fun C h9 => by cases h9) 0 rfl hK hsz (by omega) hP hS rfl (by decide) (fun cA => by rw [vp_cell_i]; rfl) (by decide) (by show 5 + 1 ≤ 26; omega) (by show 88 + 56 ≤ 22049; omega) dX7_init_45 (fun w21 H f_prices hne22 hP hS => ?_)
  have f_prices : w21 (i + 6) = aI G 56 (fun _ => 0) := f_prices
  have f_y := (hne22 i (by omega)).trans f_y
  have f_coins := (hne22 (i + 1) (by omega)).trans f_coins
  have f_value := (hne22 (i + 2) (by omega)).trans f_value
  have f_rates := (hne22 (i + 3) (by omega)).trans f_rates
  have f_sales := (hne22 (i + 4) (by omega)).trans f_sales
  have f_goods := (hne22 (i + 5) (by omega)).trans f_goods
  have hfr : ∀ j, ¬ (i ≤ j) → w21 j = w j := fun j a0 => (hne22 j (by omega)).trans (hfr j a0)
  have hP : va_P G.1 vwCl (nL (i + 7) ad w21) H := hP
  refine W.widen (k := 6) (n := 144) (by omega) (by omega) ?_
  have hJ := nad_J hE (i + 7)
  refine n_putF hx hb hts u_X7 tyX7 tyX7_ok nmX7 hown hK hJ hP hS (by omega) f_y rfl 6 (by decide) (nT_m wf_X7_25) rfl hnm rfl rfl rfl (Nat.le_of_ble_eq_true rfl) dX7_init_47 (fun w23 H locs f_y hne24 hP hS => ?_)
  have f_y : w23 i = .inr (7, [.int (iI 0), .ref (ad (i + 1)), .ref (ad (i + 2)), .ref (ad (i + 3)), .ref (ad (i + 4)), .ref (ad (i + 5)), .ref (ad (i + 6)), .null, .null, .null, .null, .null, .null, .null, .null, .null, .null, .null, .null, .null, .null, .null, .null, .null, .null, .null, .null]) := f_y
  have f_coins := (hne24 (i + 1) (by omega)).trans f_coins
  have f_value := (hne24 (i + 2) (by omega)).trans f_value
  have f_rates := (hne24 (i + 3) (by omega)).trans f_rates
  have f_sales := (hne24 (i + 4) (by omega)).trans f_sales
  have f_goods := (hne24 (i + 5) (by omega)).trans f_goods
  have f_prices := (hne24 (i + 6) (by omega)).trans f_prices
  have hfr : ∀ j, ¬ (i ≤ j) → w23 j = w j := fun j a0 => (hne24 j (by omega)).trans (hfr j a0)
  refine lv_aload_n hx hb dX7_init_50 rfl (lv_at hl 0 rfl) ?_
  refine n_bipush hx hb dX7_init_51 (by decide) ?_
  refine n_newa (atype := .int) (n := 56) (av := .inl (fun _ => iI 0)) hE hx hb (hts _ (nT_m wa_int)) rfl (fun C h9 => by cases h9) 0 rfl hK hsz (by omega) hP hS rfl (by decide) (fun cA => by rw [vp_cell_i]; rfl) (by decide) (by show 6 + 1 ≤ 26; omega) (by show 144 + 56 ≤ 22049; omega) dX7_init_53 (fun w25 H f_times hne26 hP hS => ?_)
  have f_times : w25 (i + 7) = aI G 56 (fun _ => 0) := f_times
  have f_y := (hne26 i (by omega)).trans f_y
  have f_coins := (hne26 (i + 1) (by omega)).trans f_coins
  have f_value := (hne26 (i + 2) (by omega)).trans f_value
  have f_rates := (hne26 (i + 3) (by omega)).trans f_rates
  have f_sales := (hne26 (i + 4) (by omega)).trans f_sales
  have f_goods := (hne26 (i + 5) (by omega)).trans f_goods
  have f_prices := (hne26 (i + 6) (by omega)).trans f_prices
  have hfr : ∀ j, ¬ (i ≤ j) → w25 j = w j := fun j a0 => (hne26 j (by omega)).trans (hfr j a0)
  have hP : va_P G.1 vwCl (nL (i + 8) ad w25) H := hP
  refine W.widen (k := 7) (n := 200) (by omega) (by omega) ?_
  have hJ := nad_J hE (i + 8)
  refine n_putF hx hb hts u_X7 tyX7 tyX7_ok nmX7 hown hK hJ hP hS (by omega) f_y rfl 7 (by decide) (nT_m wf_X7_28) rfl hnm rfl rfl rfl (Nat.le_of_ble_eq_true rfl) dX7_init_55 (fun w27 H locs f_y hne28 hP hS => ?_)
  have f_y : w27 i = .inr (7, [.int (iI 0), .ref (ad (i + 1)), .ref (ad (i + 2)), .ref (ad (i + 3)), .ref (ad (i + 4)), .ref (ad (i + 5)), .ref (ad (i + 6)), .ref (ad (i + 7)), .null, .null, .null, .null, .null, .null, .null, .null, .null, .null, .null, .null, .null, .null, .null, .null, .null, .null, .null]) := f_y
  have f_coins := (hne28 (i + 1) (by omega)).trans f_coins
  have f_value := (hne28 (i + 2) (by omega)).trans f_value
  have f_rates := (hne28 (i + 3) (by omega)).trans f_rates
  have f_sales := (hne28 (i + 4) (by omega)).trans f_sales
  have f_goods := (hne28 (i + 5) (by omega)).trans f_goods
  have f_prices := (hne28 (i + 6) (by omega)).trans f_prices
  have f_times := (hne28 (i + 7) (by omega)).trans f_times
  have hfr : ∀ j, ¬ (i ≤ j) → w27 j = w j := fun j a0 => (hne28 j (by omega)).trans (hfr j a0)
  refine lv_aload_n hx hb dX7_init_58 rfl (lv_at hl 0 rfl) ?_
  refine n_iconst hx hb dX7_init_59 ?_
  refine n_newa (atype := .int) (n := 4) (av := .inl (fun _ => iI 0)) hE hx hb (hts _ (nT_m wa_int)) rfl (fun C h9 => by cases h9) 0 rfl hK hsz (by omega) hP hS rfl (by decide) (fun cA => by rw [vp_cell_i]; rfl) (by decide) (by show 7 + 1 ≤ 26; omega) (by show 200 + 4 ≤ 22049; omega) dX7_init_60 (fun w29 H f_steps hne30 hP hS => ?_)
  have f_steps : w29 (i + 8) = aI G 4 (fun _ => 0) := f_steps
  have f_y := (hne30 i (by omega)).trans f_y
  have f_coins := (hne30 (i + 1) (by omega)).trans f_coins
  have f_value := (hne30 (i + 2) (by omega)).trans f_value
  have f_rates := (hne30 (i + 3) (by omega)).trans f_rates
  have f_sales := (hne30 (i + 4) (by omega)).trans f_sales
  have f_goods := (hne30 (i + 5) (by omega)).trans f_goods
  have f_prices := (hne30 (i + 6) (by omega)).trans f_prices
  have f_times := (hne30 (i + 7) (by omega)).trans f_times
  have hfr : ∀ j, ¬ (i ≤ j) → w29 j = w j := fun j a0 => (hne30 j (by omega)).trans (hfr j a0)
  have hP : va_P G.1 vwCl (nL (i + 9) ad w29) H := hP
  refine W.widen (k := 8) (n := 204) (by omega) (by omega) ?_
  have hJ := nad_J hE (i + 9)
  refine n_putF hx hb hts u_X7 tyX7 tyX7_ok nmX7 hown hK hJ hP hS (by omega) f_y rfl 8 (by decide) (nT_m wf_X7_31) rfl hnm rfl rfl rfl (Nat.le_of_ble_eq_true rfl) dX7_init_62 (fun w31 H locs f_y hne32 hP hS => ?_)
  have f_y : w31 i = .inr (7, [.int (iI 0), .ref (ad (i + 1)), .ref (ad (i + 2)), .ref (ad (i + 3)), .ref (ad (i + 4)), .ref (ad (i + 5)), .ref (ad (i + 6)), .ref (ad (i + 7)), .ref (ad (i + 8)), .null, .null, .null, .null, .null, .null, .null, .null, .null, .null, .null, .null, .null, .null, .null, .null, .null, .null]) := f_y
  have f_coins := (hne32 (i + 1) (by omega)).trans f_coins
  have f_value := (hne32 (i + 2) (by omega)).trans f_value
  have f_rates := (hne32 (i + 3) (by omega)).trans f_rates
  have f_sales := (hne32 (i + 4) (by omega)).trans f_sales
  have f_goods := (hne32 (i + 5) (by omega)).trans f_goods
  have f_prices := (hne32 (i + 6) (by omega)).trans f_prices
  have f_times := (hne32 (i + 7) (by omega)).trans f_times
  have f_steps := (hne32 (i + 8) (by omega)).trans f_steps
  have hfr : ∀ j, ¬ (i ≤ j) → w31 j = w j := fun j a0 => (hne32 j (by omega)).trans (hfr j a0)
  refine lv_aload_n hx hb dX7_init_65 rfl (lv_at hl 0 rfl) ?_
  refine n_iconst hx hb dX7_init_66 ?_
  refine n_newa (atype := .int) (n := 4) (av := .inl (fun _ => iI 0)) hE hx hb (hts _ (nT_m wa_int)) rfl (fun C h9 => by cases h9) 0 rfl hK hsz (by omega) hP hS rfl (by decide) (fun cA => by rw [vp_cell_i]; rfl) (by decide) (by show 8 + 1 ≤ 26; omega) (by show 204 + 4 ≤ 22049; omega) dX7_init_67 (fun w33 H f_tills hne34 hP hS => ?_)
  have f_tills : w33 (i + 9) = aI G 4 (fun _ => 0) := f_tills
  have f_y := (hne34 i (by omega)).trans f_y
  have f_coins := (hne34 (i + 1) (by omega)).trans f_coins
  have f_value := (hne34 (i + 2) (by omega)).trans f_value
  have f_rates := (hne34 (i + 3) (by omega)).trans f_rates
  have f_sales := (hne34 (i + 4) (by omega)).trans f_sales
  have f_goods := (hne34 (i + 5) (by omega)).trans f_goods
  have f_prices := (hne34 (i + 6) (by omega)).trans f_prices
  have f_times := (hne34 (i + 7) (by omega)).trans f_times
  have f_steps := (hne34 (i + 8) (by omega)).trans f_steps
  have hfr : ∀ j, ¬ (i ≤ j) → w33 j = w j := fun j a0 => (hne34 j (by omega)).trans (hfr j a0)
  have hP : va_P G.1 vwCl (nL (i + 10) ad w33) H := hP
  refine W.widen (k := 9) (n := 208) (by omega) (by omega) ?_
  have hJ := nad_J hE (i + 10)
  refine n_putF hx hb hts u_X7 tyX7 tyX7_ok nmX7 hown hK hJ hP hS (by omega) f_y rfl 9 (by decide) (nT_m wf_X7_34) rfl hnm rfl rfl rfl (Nat.le_of_ble_eq_true rfl) dX7_init_69 (fun w35 H locs f_y hne36 hP hS => ?_)
  have f_y : w35 i = .inr (7, [.int (iI 0), .ref (ad (i + 1)), .ref (ad (i + 2)), .ref (ad (i + 3)), .ref (ad (i + 4)), .ref (ad (i + 5)), .ref (ad (i + 6)), .ref (ad (i + 7)), .ref (ad (i + 8)), .ref (ad (i + 9)), .null, .null, .null, .null, .null, .null, .null, .null, .null, .null, .null, .null, .null, .null, .null, .null, .null]) := f_y
  have f_coins := (hne36 (i + 1) (by omega)).trans f_coins
  have f_value := (hne36 (i + 2) (by omega)).trans f_value
  have f_rates := (hne36 (i + 3) (by omega)).trans f_rates
  have f_sales := (hne36 (i + 4) (by omega)).trans f_sales
  have f_goods := (hne36 (i + 5) (by omega)).trans f_goods
  have f_prices := (hne36 (i + 6) (by omega)).trans f_prices
  have f_times := (hne36 (i + 7) (by omega)).trans f_times
  have f_steps := (hne36 (i + 8) (by omega)).trans f_steps
  have f_tills := (hne36 (i + 9) (by omega)).trans f_tills
  have hfr : ∀ j, ¬ (i ≤ j) → w35 j = w j := fun j a0 => (hne36 j (by omega)).trans (hfr j a0)
  refine lv_aload_n hx hb dX7_init_72 rfl (lv_at hl 0 rfl) ?_
  refine n_bipush hx hb dX7_init_73 (by decide) ?_
  refine n_newa (atype := .int) (n := 16) (av := .inl (fun _ => iI 0)) hE hx hb (hts _ (nT_m wa_int)) rfl (fun C h9 => by cases h9) 0 rfl hK hsz (by omega) hP hS rfl (by decide) (fun cA => by rw [vp_cell_i]; rfl) (by decide) (by show 9 + 1 ≤ 26; omega) (by show 208 + 16 ≤ 22049; omega) dX7_init_75 (fun w37 H f_tillSales hne38 hP hS => ?_)
  have f_tillSales : w37 (i + 10) = aI G 16 (fun _ => 0) := f_tillSales
  have f_y := (hne38 i (by omega)).trans f_y
  have f_coins := (hne38 (i + 1) (by omega)).trans f_coins
  have f_value := (hne38 (i + 2) (by omega)).trans f_value
  have f_rates := (hne38 (i + 3) (by omega)).trans f_rates
  have f_sales := (hne38 (i + 4) (by omega)).trans f_sales
  have f_goods := (hne38 (i + 5) (by omega)).trans f_goods
  have f_prices := (hne38 (i + 6) (by omega)).trans f_prices
  have f_times := (hne38 (i + 7) (by omega)).trans f_times
  have f_steps := (hne38 (i + 8) (by omega)).trans f_steps
  have f_tills := (hne38 (i + 9) (by omega)).trans f_tills
  have hfr : ∀ j, ¬ (i ≤ j) → w37 j = w j := fun j a0 => (hne38 j (by omega)).trans (hfr j a0)
  have hP : va_P G.1 vwCl (nL (i + 11) ad w37) H := hP
  refine W.widen (k := 10) (n := 224) (by omega) (by omega) ?_
  have hJ := nad_J hE (i + 11)
  refine n_putF hx hb hts u_X7 tyX7 tyX7_ok nmX7 hown hK hJ hP hS (by omega) f_y rfl 10 (by decide) (nT_m wf_X7_37) rfl hnm rfl rfl rfl (Nat.le_of_ble_eq_true rfl) dX7_init_77 (fun w39 H locs f_y hne40 hP hS => ?_)
  have f_y : w39 i = .inr (7, [.int (iI 0), .ref (ad (i + 1)), .ref (ad (i + 2)), .ref (ad (i + 3)), .ref (ad (i + 4)), .ref (ad (i + 5)), .ref (ad (i + 6)), .ref (ad (i + 7)), .ref (ad (i + 8)), .ref (ad (i + 9)), .ref (ad (i + 10)), .null, .null, .null, .null, .null, .null, .null, .null, .null, .null, .null, .null, .null, .null, .null, .null]) := f_y
  have f_coins := (hne40 (i + 1) (by omega)).trans f_coins
  have f_value := (hne40 (i + 2) (by omega)).trans f_value
  have f_rates := (hne40 (i + 3) (by omega)).trans f_rates
  have f_sales := (hne40 (i + 4) (by omega)).trans f_sales
  have f_goods := (hne40 (i + 5) (by omega)).trans f_goods
  have f_prices := (hne40 (i + 6) (by omega)).trans f_prices
  have f_times := (hne40 (i + 7) (by omega)).trans f_times
  have f_steps := (hne40 (i + 8) (by omega)).trans f_steps
  have f_tills := (hne40 (i + 9) (by omega)).trans f_tills
  have f_tillSales := (hne40 (i + 10) (by omega)).trans f_tillSales
  have hfr : ∀ j, ¬ (i ≤ j) → w39 j = w j := fun j a0 => (hne40 j (by omega)).trans (hfr j a0)
  refine lv_aload_n hx hb dX7_init_80 rfl (lv_at hl 0 rfl) ?_
  refine n_bipush hx hb dX7_init_81 (by decide) ?_
  refine n_newa (atype := .long) (n := 16) (av := .inr (.inl (fun _ => jI 0))) hE hx hb (hts _ (nT_m wa_long)) rfl (fun C h9 => by cases h9) 1 rfl hK hsz (by omega) hP hS rfl (by decide) (fun cA => by rw [vp_cell_l]; rfl) (by decide) (by show 10 + 1 ≤ 26; omega) (by show 224 + 16 ≤ 22049; omega) dX7_init_83 (fun w41 H f_scraps hne42 hP hS => ?_)
  have f_scraps : w41 (i + 11) = aJ G 16 (fun _ => 0) := f_scraps
  have f_y := (hne42 i (by omega)).trans f_y
  have f_coins := (hne42 (i + 1) (by omega)).trans f_coins
  have f_value := (hne42 (i + 2) (by omega)).trans f_value
  have f_rates := (hne42 (i + 3) (by omega)).trans f_rates
  have f_sales := (hne42 (i + 4) (by omega)).trans f_sales
  have f_goods := (hne42 (i + 5) (by omega)).trans f_goods
  have f_prices := (hne42 (i + 6) (by omega)).trans f_prices
  have f_times := (hne42 (i + 7) (by omega)).trans f_times
  have f_steps := (hne42 (i + 8) (by omega)).trans f_steps
  have f_tills := (hne42 (i + 9) (by omega)).trans f_tills
  have f_tillSales := (hne42 (i + 10) (by omega)).trans f_tillSales
  have hfr : ∀ j, ¬ (i ≤ j) → w41 j = w j := fun j a0 => (hne42 j (by omega)).trans (hfr j a0)
  have hP : va_P G.1 vwCl (nL (i + 12) ad w41) H := hP
  refine W.widen (k := 11) (n := 240) (by omega) (by omega) ?_
  have hJ := nad_J hE (i + 12)
  refine n_putF hx hb hts u_X7 tyX7 tyX7_ok nmX7 hown hK hJ hP hS (by omega) f_y rfl 11 (by decide) (nT_m wf_X7_40) rfl hnm rfl rfl rfl (Nat.le_of_ble_eq_true rfl) dX7_init_85 (fun w43 H locs f_y hne44 hP hS => ?_)
  have f_y : w43 i = .inr (7, [.int (iI 0), .ref (ad (i + 1)), .ref (ad (i + 2)), .ref (ad (i + 3)), .ref (ad (i + 4)), .ref (ad (i + 5)), .ref (ad (i + 6)), .ref (ad (i + 7)), .ref (ad (i + 8)), .ref (ad (i + 9)), .ref (ad (i + 10)), .ref (ad (i + 11)), .null, .null, .null, .null, .null, .null, .null, .null, .null, .null, .null, .null, .null, .null, .null]) := f_y
  have f_coins := (hne44 (i + 1) (by omega)).trans f_coins
  have f_value := (hne44 (i + 2) (by omega)).trans f_value
  have f_rates := (hne44 (i + 3) (by omega)).trans f_rates
  have f_sales := (hne44 (i + 4) (by omega)).trans f_sales
  have f_goods := (hne44 (i + 5) (by omega)).trans f_goods
  have f_prices := (hne44 (i + 6) (by omega)).trans f_prices
  have f_times := (hne44 (i + 7) (by omega)).trans f_times
  have f_steps := (hne44 (i + 8) (by omega)).trans f_steps
  have f_tills := (hne44 (i + 9) (by omega)).trans f_tills
  have f_tillSales := (hne44 (i + 10) (by omega)).trans f_tillSales
  have f_scraps := (hne44 (i + 11) (by omega)).trans f_scraps
  have hfr : ∀ j, ¬ (i ≤ j) → w43 j = w j := fun j a0 => (hne44 j (by omega)).trans (hfr j a0)
  refine lv_aload_n hx hb dX7_init_88 rfl (lv_at hl 0 rfl) ?_
  refine n_bipush hx hb dX7_init_89 (by decide) ?_
  refine n_newa (atype := .long) (n := 16) (av := .inr (.inl (fun _ => jI 0))) hE hx hb (hts _ (nT_m wa_long)) rfl (fun C h9 => by cases h9) 1 rfl hK hsz (by omega) hP hS rfl (by decide) (fun cA => by rw [vp_cell_l]; rfl) (by decide) (by show 11 + 1 ≤ 26; omega) (by show 240 + 16 ≤ 22049; omega) dX7_init_91 (fun w45 H f_paid hne46 hP hS => ?_)
  have f_paid : w45 (i + 12) = aJ G 16 (fun _ => 0) := f_paid
  have f_y := (hne46 i (by omega)).trans f_y
  have f_coins := (hne46 (i + 1) (by omega)).trans f_coins
  have f_value := (hne46 (i + 2) (by omega)).trans f_value
  have f_rates := (hne46 (i + 3) (by omega)).trans f_rates
  have f_sales := (hne46 (i + 4) (by omega)).trans f_sales
  have f_goods := (hne46 (i + 5) (by omega)).trans f_goods
  have f_prices := (hne46 (i + 6) (by omega)).trans f_prices
  have f_times := (hne46 (i + 7) (by omega)).trans f_times
  have f_steps := (hne46 (i + 8) (by omega)).trans f_steps
  have f_tills := (hne46 (i + 9) (by omega)).trans f_tills
  have f_tillSales := (hne46 (i + 10) (by omega)).trans f_tillSales
  have f_scraps := (hne46 (i + 11) (by omega)).trans f_scraps
  have hfr : ∀ j, ¬ (i ≤ j) → w45 j = w j := fun j a0 => (hne46 j (by omega)).trans (hfr j a0)
  have hP : va_P G.1 vwCl (nL (i + 13) ad w45) H := hP
  refine W.widen (k := 12) (n := 256) (by omega) (by omega) ?_
  have hJ := nad_J hE (i + 13)
  refine n_putF hx hb hts u_X7 tyX7 tyX7_ok nmX7 hown hK hJ hP hS (by omega) f_y rfl 12 (by decide) (nT_m wf_X7_44) rfl hnm rfl rfl rfl (Nat.le_of_ble_eq_true rfl) dX7_init_93 (fun w47 H locs f_y hne48 hP hS => ?_)
  have f_y : w47 i = .inr (7, [.int (iI 0), .ref (ad (i + 1)), .ref (ad (i + 2)), .ref (ad (i + 3)), .ref (ad (i + 4)), .ref (ad (i + 5)), .ref (ad (i + 6)), .ref (ad (i + 7)), .ref (ad (i + 8)), .ref (ad (i + 9)), .ref (ad (i + 10)), .ref (ad (i + 11)), .ref (ad (i + 12)), .null, .null, .null, .null, .null, .null, .null, .null, .null, .null, .null, .null, .null, .null]) := f_y
  have f_coins := (hne48 (i + 1) (by omega)).trans f_coins
  have f_value := (hne48 (i + 2) (by omega)).trans f_value
  have f_rates := (hne48 (i + 3) (by omega)).trans f_rates
  have f_sales := (hne48 (i + 4) (by omega)).trans f_sales
  have f_goods := (hne48 (i + 5) (by omega)).trans f_goods
  have f_prices := (hne48 (i + 6) (by omega)).trans f_prices
  have f_times := (hne48 (i + 7) (by omega)).trans f_times
  have f_steps := (hne48 (i + 8) (by omega)).trans f_steps
  have f_tills := (hne48 (i + 9) (by omega)).trans f_tills
  have f_tillSales := (hne48 (i + 10) (by omega)).trans f_tillSales
  have f_scraps := (hne48 (i + 11) (by omega)).trans f_scraps
  have f_paid := (hne48 (i + 12) (by omega)).trans f_paid
  have hfr : ∀ j, ¬ (i ≤ j) → w47 j = w j := fun j a0 => (hne48 j (by omega)).trans (hfr j a0)
  refine lv_aload_n hx hb dX7_init_96 rfl (lv_at hl 0 rfl) ?_
  refine n_bipush hx hb dX7_init_97 (by decide) ?_
  refine n_newa (atype := .int) (n := 16) (av := .inl (fun _ => iI 0)) hE hx hb (hts _ (nT_m wa_int)) rfl (fun C h9 => by cases h9) 0 rfl hK hsz (by omega) hP hS rfl (by decide) (fun cA => by rw [vp_cell_i]; rfl) (by decide) (by show 12 + 1 ≤ 26; omega) (by show 256 + 16 ≤ 22049; omega) dX7_init_99 (fun w49 H f_expected hne50 hP hS => ?_)
  have f_expected : w49 (i + 13) = aI G 16 (fun _ => 0) := f_expected
  have f_y := (hne50 i (by omega)).trans f_y
  have f_coins := (hne50 (i + 1) (by omega)).trans f_coins
  have f_value := (hne50 (i + 2) (by omega)).trans f_value
  have f_rates := (hne50 (i + 3) (by omega)).trans f_rates
  have f_sales := (hne50 (i + 4) (by omega)).trans f_sales
  have f_goods := (hne50 (i + 5) (by omega)).trans f_goods
  have f_prices := (hne50 (i + 6) (by omega)).trans f_prices
  have f_times := (hne50 (i + 7) (by omega)).trans f_times
  have f_steps := (hne50 (i + 8) (by omega)).trans f_steps
  have f_tills := (hne50 (i + 9) (by omega)).trans f_tills
  have f_tillSales := (hne50 (i + 10) (by omega)).trans f_tillSales
  have f_scraps := (hne50 (i + 11) (by omega)).trans f_scraps
  have f_paid := (hne50 (i + 12) (by omega)).trans f_paid
  have hfr : ∀ j, ¬ (i ≤ j) → w49 j = w j := fun j a0 => (hne50 j (by omega)).trans (hfr j a0)
  have hP : va_P G.1 vwCl (nL (i + 14) ad w49) H := hP
  refine W.widen (k := 13) (n := 272) (by omega) (by omega) ?_
  have hJ := nad_J hE (i + 14)
  refine n_putF hx hb hts u_X7 tyX7 tyX7_ok nmX7 hown hK hJ hP hS (by omega) f_y rfl 13 (by decide) (nT_m wf_X7_47) rfl hnm rfl rfl rfl (Nat.le_of_ble_eq_true rfl) dX7_init_101 (fun w51 H locs f_y hne52 hP hS => ?_)
  have f_y : w51 i = .inr (7, [.int (iI 0), .ref (ad (i + 1)), .ref (ad (i + 2)), .ref (ad (i + 3)), .ref (ad (i + 4)), .ref (ad (i + 5)), .ref (ad (i + 6)), .ref (ad (i + 7)), .ref (ad (i + 8)), .ref (ad (i + 9)), .ref (ad (i + 10)), .ref (ad (i + 11)), .ref (ad (i + 12)), .ref (ad (i + 13)), .null, .null, .null, .null, .null, .null, .null, .null, .null, .null, .null, .null, .null]) := f_y
  have f_coins := (hne52 (i + 1) (by omega)).trans f_coins
  have f_value := (hne52 (i + 2) (by omega)).trans f_value
  have f_rates := (hne52 (i + 3) (by omega)).trans f_rates
  have f_sales := (hne52 (i + 4) (by omega)).trans f_sales
  have f_goods := (hne52 (i + 5) (by omega)).trans f_goods
  have f_prices := (hne52 (i + 6) (by omega)).trans f_prices
  have f_times := (hne52 (i + 7) (by omega)).trans f_times
  have f_steps := (hne52 (i + 8) (by omega)).trans f_steps
  have f_tills := (hne52 (i + 9) (by omega)).trans f_tills
  have f_tillSales := (hne52 (i + 10) (by omega)).trans f_tillSales
  have f_scraps := (hne52 (i + 11) (by omega)).trans f_scraps
  have f_paid := (hne52 (i + 12) (by omega)).trans f_paid
  have f_expected := (hne52 (i + 13) (by omega)).trans f_expected
  have hfr : ∀ j, ¬ (i ≤ j) → w51 j = w j := fun j a0 => (hne52 j (by omega)).trans (hfr j a0)
  refine lv_aload_n hx hb dX7_init_104 rfl (lv_at hl 0 rfl) ?_
  refine n_sipush hx hb dX7_init_105 (by decide) ?_
  refine n_newa (atype := .int) (n := 256) (av := .inl (fun _ => iI 0)) hE hx hb (hts _ (nT_m wa_int)) rfl (fun C h9 => by cases h9) 0 rfl hK hsz (by omega) hP hS rfl (by decide) (fun cA => by rw [vp_cell_i]; rfl) (by decide) (by show 13 + 1 ≤ 26; omega) (by show 272 + 256 ≤ 22049; omega) dX7_init_108 (fun w53 H f_has hne54 hP hS => ?_)
  have f_has : w53 (i + 14) = aI G 256 (fun _ => 0) := f_has
  have f_y := (hne54 i (by omega)).trans f_y
  have f_coins := (hne54 (i + 1) (by omega)).trans f_coins
  have f_value := (hne54 (i + 2) (by omega)).trans f_value
  have f_rates := (hne54 (i + 3) (by omega)).trans f_rates
  have f_sales := (hne54 (i + 4) (by omega)).trans f_sales
  have f_goods := (hne54 (i + 5) (by omega)).trans f_goods
  have f_prices := (hne54 (i + 6) (by omega)).trans f_prices
  have f_times := (hne54 (i + 7) (by omega)).trans f_times
  have f_steps := (hne54 (i + 8) (by omega)).trans f_steps
  have f_tills := (hne54 (i + 9) (by omega)).trans f_tills
  have f_tillSales := (hne54 (i + 10) (by omega)).trans f_tillSales
  have f_scraps := (hne54 (i + 11) (by omega)).trans f_scraps
  have f_paid := (hne54 (i + 12) (by omega)).trans f_paid
  have f_expected := (hne54 (i + 13) (by omega)).trans f_expected
  have hfr : ∀ j, ¬ (i ≤ j) → w53 j = w j := fun j a0 => (hne54 j (by omega)).trans (hfr j a0)
  have hP : va_P G.1 vwCl (nL (i + 15) ad w53) H := hP
  refine W.widen (k := 14) (n := 528) (by omega) (by omega) ?_
  have hJ := nad_J hE (i + 15)
  refine n_putF hx hb hts u_X7 tyX7 tyX7_ok nmX7 hown hK hJ hP hS (by omega) f_y rfl 14 (by decide) (nT_m wf_X7_50) rfl hnm rfl rfl rfl (Nat.le_of_ble_eq_true rfl) dX7_init_110 (fun w55 H locs f_y hne56 hP hS => ?_)
  have f_y : w55 i = .inr (7, [.int (iI 0), .ref (ad (i + 1)), .ref (ad (i + 2)), .ref (ad (i + 3)), .ref (ad (i + 4)), .ref (ad (i + 5)), .ref (ad (i + 6)), .ref (ad (i + 7)), .ref (ad (i + 8)), .ref (ad (i + 9)), .ref (ad (i + 10)), .ref (ad (i + 11)), .ref (ad (i + 12)), .ref (ad (i + 13)), .ref (ad (i + 14)), .null, .null, .null, .null, .null, .null, .null, .null, .null, .null, .null, .null]) := f_y
  have f_coins := (hne56 (i + 1) (by omega)).trans f_coins
  have f_value := (hne56 (i + 2) (by omega)).trans f_value
  have f_rates := (hne56 (i + 3) (by omega)).trans f_rates
  have f_sales := (hne56 (i + 4) (by omega)).trans f_sales
  have f_goods := (hne56 (i + 5) (by omega)).trans f_goods
  have f_prices := (hne56 (i + 6) (by omega)).trans f_prices
  have f_times := (hne56 (i + 7) (by omega)).trans f_times
  have f_steps := (hne56 (i + 8) (by omega)).trans f_steps
  have f_tills := (hne56 (i + 9) (by omega)).trans f_tills
  have f_tillSales := (hne56 (i + 10) (by omega)).trans f_tillSales
  have f_scraps := (hne56 (i + 11) (by omega)).trans f_scraps
  have f_paid := (hne56 (i + 12) (by omega)).trans f_paid
  have f_expected := (hne56 (i + 13) (by omega)).trans f_expected
  have f_has := (hne56 (i + 14) (by omega)).trans f_has
  have hfr : ∀ j, ¬ (i ≤ j) → w55 j = w j := fun j a0 => (hne56 j (by omega)).trans (hfr j a0)
  refine lv_aload_n hx hb dX7_init_113 rfl (lv_at hl 0 rfl) ?_
  refine n_sipush hx hb dX7_init_114 (by decide) ?_
  refine n_newa (atype := .int) (n := 128) (av := .inl (fun _ => iI 0)) hE hx hb (hts _ (nT_m wa_int)) rfl (fun C h9 => by cases h9) 0 rfl hK hsz (by omega) hP hS rfl (by decide) (fun cA => by rw [vp_cell_i]; rfl) (by decide) (by show 14 + 1 ≤ 26; omega) (by show 528 + 128 ≤ 22049; omega) dX7_init_117 (fun w57 H f_gave hne58 hP hS => ?_)
  have f_gave : w57 (i + 15) = aI G 128 (fun _ => 0) := f_gave
  have f_y := (hne58 i (by omega)).trans f_y
  have f_coins := (hne58 (i + 1) (by omega)).trans f_coins
  have f_value := (hne58 (i + 2) (by omega)).trans f_value
  have f_rates := (hne58 (i + 3) (by omega)).trans f_rates
  have f_sales := (hne58 (i + 4) (by omega)).trans f_sales
  have f_goods := (hne58 (i + 5) (by omega)).trans f_goods
  have f_prices := (hne58 (i + 6) (by omega)).trans f_prices
  have f_times := (hne58 (i + 7) (by omega)).trans f_times
  have f_steps := (hne58 (i + 8) (by omega)).trans f_steps
  have f_tills := (hne58 (i + 9) (by omega)).trans f_tills
  have f_tillSales := (hne58 (i + 10) (by omega)).trans f_tillSales
  have f_scraps := (hne58 (i + 11) (by omega)).trans f_scraps
  have f_paid := (hne58 (i + 12) (by omega)).trans f_paid
  have f_expected := (hne58 (i + 13) (by omega)).trans f_expected
  have f_has := (hne58 (i + 14) (by omega)).trans f_has
  have hfr : ∀ j, ¬ (i ≤ j) → w57 j = w j := fun j a0 => (hne58 j (by omega)).trans (hfr j a0)
  have hP : va_P G.1 vwCl (nL (i + 16) ad w57) H := hP
  refine W.widen (k := 15) (n := 656) (by omega) (by omega) ?_
  have hJ := nad_J hE (i + 16)
  refine n_putF hx hb hts u_X7 tyX7 tyX7_ok nmX7 hown hK hJ hP hS (by omega) f_y rfl 15 (by decide) (nT_m wf_X7_53) rfl hnm rfl rfl rfl (Nat.le_of_ble_eq_true rfl) dX7_init_119 (fun w59 H locs f_y hne60 hP hS => ?_)
  have f_y : w59 i = .inr (7, [.int (iI 0), .ref (ad (i + 1)), .ref (ad (i + 2)), .ref (ad (i + 3)), .ref (ad (i + 4)), .ref (ad (i + 5)), .ref (ad (i + 6)), .ref (ad (i + 7)), .ref (ad (i + 8)), .ref (ad (i + 9)), .ref (ad (i + 10)), .ref (ad (i + 11)), .ref (ad (i + 12)), .ref (ad (i + 13)), .ref (ad (i + 14)), .ref (ad (i + 15)), .null, .null, .null, .null, .null, .null, .null, .null, .null, .null, .null]) := f_y
  have f_coins := (hne60 (i + 1) (by omega)).trans f_coins
  have f_value := (hne60 (i + 2) (by omega)).trans f_value
  have f_rates := (hne60 (i + 3) (by omega)).trans f_rates
  have f_sales := (hne60 (i + 4) (by omega)).trans f_sales
  have f_goods := (hne60 (i + 5) (by omega)).trans f_goods
  have f_prices := (hne60 (i + 6) (by omega)).trans f_prices
  have f_times := (hne60 (i + 7) (by omega)).trans f_times
  have f_steps := (hne60 (i + 8) (by omega)).trans f_steps
  have f_tills := (hne60 (i + 9) (by omega)).trans f_tills
  have f_tillSales := (hne60 (i + 10) (by omega)).trans f_tillSales
  have f_scraps := (hne60 (i + 11) (by omega)).trans f_scraps
  have f_paid := (hne60 (i + 12) (by omega)).trans f_paid
  have f_expected := (hne60 (i + 13) (by omega)).trans f_expected
  have f_has := (hne60 (i + 14) (by omega)).trans f_has
  have f_gave := (hne60 (i + 15) (by omega)).trans f_gave
  have hfr : ∀ j, ¬ (i ≤ j) → w59 j = w j := fun j a0 => (hne60 j (by omega)).trans (hfr j a0)
  refine lv_aload_n hx hb dX7_init_122 rfl (lv_at hl 0 rfl) ?_
  refine n_bipush hx hb dX7_init_123 (by decide) ?_
  refine n_newa (atype := .int) (n := 32) (av := .inl (fun _ => iI 0)) hE hx hb (hts _ (nT_m wa_int)) rfl (fun C h9 => by cases h9) 0 rfl hK hsz (by omega) hP hS rfl (by decide) (fun cA => by rw [vp_cell_i]; rfl) (by decide) (by show 15 + 1 ≤ 26; omega) (by show 656 + 32 ≤ 22049; omega) dX7_init_125 (fun w61 H f_drawnIn hne62 hP hS => ?_)
  have f_drawnIn : w61 (i + 16) = aI G 32 (fun _ => 0) := f_drawnIn
  have f_y := (hne62 i (by omega)).trans f_y
  have f_coins := (hne62 (i + 1) (by omega)).trans f_coins
  have f_value := (hne62 (i + 2) (by omega)).trans f_value
  have f_rates := (hne62 (i + 3) (by omega)).trans f_rates
  have f_sales := (hne62 (i + 4) (by omega)).trans f_sales
  have f_goods := (hne62 (i + 5) (by omega)).trans f_goods
  have f_prices := (hne62 (i + 6) (by omega)).trans f_prices
  have f_times := (hne62 (i + 7) (by omega)).trans f_times
  have f_steps := (hne62 (i + 8) (by omega)).trans f_steps
  have f_tills := (hne62 (i + 9) (by omega)).trans f_tills
  have f_tillSales := (hne62 (i + 10) (by omega)).trans f_tillSales
  have f_scraps := (hne62 (i + 11) (by omega)).trans f_scraps
  have f_paid := (hne62 (i + 12) (by omega)).trans f_paid
  have f_expected := (hne62 (i + 13) (by omega)).trans f_expected
  have f_has := (hne62 (i + 14) (by omega)).trans f_has
  have f_gave := (hne62 (i + 15) (by omega)).trans f_gave
  have hfr : ∀ j, ¬ (i ≤ j) → w61 j = w j := fun j a0 => (hne62 j (by omega)).trans (hfr j a0)
  have hP : va_P G.1 vwCl (nL (i + 17) ad w61) H := hP
  refine W.widen (k := 16) (n := 688) (by omega) (by omega) ?_
  have hJ := nad_J hE (i + 17)
  refine n_putF hx hb hts u_X7 tyX7 tyX7_ok nmX7 hown hK hJ hP hS (by omega) f_y rfl 16 (by decide) (nT_m wf_X7_56) rfl hnm rfl rfl rfl (Nat.le_of_ble_eq_true rfl) dX7_init_127 (fun w63 H locs f_y hne64 hP hS => ?_)
  have f_y : w63 i = .inr (7, [.int (iI 0), .ref (ad (i + 1)), .ref (ad (i + 2)), .ref (ad (i + 3)), .ref (ad (i + 4)), .ref (ad (i + 5)), .ref (ad (i + 6)), .ref (ad (i + 7)), .ref (ad (i + 8)), .ref (ad (i + 9)), .ref (ad (i + 10)), .ref (ad (i + 11)), .ref (ad (i + 12)), .ref (ad (i + 13)), .ref (ad (i + 14)), .ref (ad (i + 15)), .ref (ad (i + 16)), .null, .null, .null, .null, .null, .null, .null, .null, .null, .null]) := f_y
  have f_coins := (hne64 (i + 1) (by omega)).trans f_coins
  have f_value := (hne64 (i + 2) (by omega)).trans f_value
  have f_rates := (hne64 (i + 3) (by omega)).trans f_rates
  have f_sales := (hne64 (i + 4) (by omega)).trans f_sales
  have f_goods := (hne64 (i + 5) (by omega)).trans f_goods
  have f_prices := (hne64 (i + 6) (by omega)).trans f_prices
  have f_times := (hne64 (i + 7) (by omega)).trans f_times
  have f_steps := (hne64 (i + 8) (by omega)).trans f_steps
  have f_tills := (hne64 (i + 9) (by omega)).trans f_tills
  have f_tillSales := (hne64 (i + 10) (by omega)).trans f_tillSales
  have f_scraps := (hne64 (i + 11) (by omega)).trans f_scraps
  have f_paid := (hne64 (i + 12) (by omega)).trans f_paid
  have f_expected := (hne64 (i + 13) (by omega)).trans f_expected
  have f_has := (hne64 (i + 14) (by omega)).trans f_has
  have f_gave := (hne64 (i + 15) (by omega)).trans f_gave
  have f_drawnIn := (hne64 (i + 16) (by omega)).trans f_drawnIn
  have hfr : ∀ j, ¬ (i ≤ j) → w63 j = w j := fun j a0 => (hne64 j (by omega)).trans (hfr j a0)
  refine lv_aload_n hx hb dX7_init_130 rfl (lv_at hl 0 rfl) ?_
  refine n_sipush hx hb dX7_init_131 (by decide) ?_
  refine n_newa (atype := .int) (n := 1280) (av := .inl (fun _ => iI 0)) hE hx hb (hts _ (nT_m wa_int)) rfl (fun C h9 => by cases h9) 0 rfl hK hsz (by omega) hP hS rfl (by decide) (fun cA => by rw [vp_cell_i]; rfl) (by decide) (by show 16 + 1 ≤ 26; omega) (by show 688 + 1280 ≤ 22049; omega) dX7_init_134 (fun w65 H f_expects hne66 hP hS => ?_)
  have f_expects : w65 (i + 17) = aI G 1280 (fun _ => 0) := f_expects
  have f_y := (hne66 i (by omega)).trans f_y
  have f_coins := (hne66 (i + 1) (by omega)).trans f_coins
  have f_value := (hne66 (i + 2) (by omega)).trans f_value
  have f_rates := (hne66 (i + 3) (by omega)).trans f_rates
  have f_sales := (hne66 (i + 4) (by omega)).trans f_sales
  have f_goods := (hne66 (i + 5) (by omega)).trans f_goods
  have f_prices := (hne66 (i + 6) (by omega)).trans f_prices
  have f_times := (hne66 (i + 7) (by omega)).trans f_times
  have f_steps := (hne66 (i + 8) (by omega)).trans f_steps
  have f_tills := (hne66 (i + 9) (by omega)).trans f_tills
  have f_tillSales := (hne66 (i + 10) (by omega)).trans f_tillSales
  have f_scraps := (hne66 (i + 11) (by omega)).trans f_scraps
  have f_paid := (hne66 (i + 12) (by omega)).trans f_paid
  have f_expected := (hne66 (i + 13) (by omega)).trans f_expected
  have f_has := (hne66 (i + 14) (by omega)).trans f_has
  have f_gave := (hne66 (i + 15) (by omega)).trans f_gave
  have f_drawnIn := (hne66 (i + 16) (by omega)).trans f_drawnIn
  have hfr : ∀ j, ¬ (i ≤ j) → w65 j = w j := fun j a0 => (hne66 j (by omega)).trans (hfr j a0)
  have hP : va_P G.1 vwCl (nL (i + 18) ad w65) H := hP
  refine W.widen (k := 17) (n := 1968) (by omega) (by omega) ?_
  have hJ := nad_J hE (i + 18)
  refine n_putF hx hb hts u_X7 tyX7 tyX7_ok nmX7 hown hK hJ hP hS (by omega) f_y rfl 17 (by decide) (nT_m wf_X7_59) rfl hnm rfl rfl rfl (Nat.le_of_ble_eq_true rfl) dX7_init_136 (fun w67 H locs f_y hne68 hP hS => ?_)
  have f_y : w67 i = .inr (7, [.int (iI 0), .ref (ad (i + 1)), .ref (ad (i + 2)), .ref (ad (i + 3)), .ref (ad (i + 4)), .ref (ad (i + 5)), .ref (ad (i + 6)), .ref (ad (i + 7)), .ref (ad (i + 8)), .ref (ad (i + 9)), .ref (ad (i + 10)), .ref (ad (i + 11)), .ref (ad (i + 12)), .ref (ad (i + 13)), .ref (ad (i + 14)), .ref (ad (i + 15)), .ref (ad (i + 16)), .ref (ad (i + 17)), .null, .null, .null, .null, .null, .null, .null, .null, .null]) := f_y
  have f_coins := (hne68 (i + 1) (by omega)).trans f_coins
  have f_value := (hne68 (i + 2) (by omega)).trans f_value
  have f_rates := (hne68 (i + 3) (by omega)).trans f_rates
  have f_sales := (hne68 (i + 4) (by omega)).trans f_sales
  have f_goods := (hne68 (i + 5) (by omega)).trans f_goods
  have f_prices := (hne68 (i + 6) (by omega)).trans f_prices
  have f_times := (hne68 (i + 7) (by omega)).trans f_times
  have f_steps := (hne68 (i + 8) (by omega)).trans f_steps
  have f_tills := (hne68 (i + 9) (by omega)).trans f_tills
  have f_tillSales := (hne68 (i + 10) (by omega)).trans f_tillSales
  have f_scraps := (hne68 (i + 11) (by omega)).trans f_scraps
  have f_paid := (hne68 (i + 12) (by omega)).trans f_paid
  have f_expected := (hne68 (i + 13) (by omega)).trans f_expected
  have f_has := (hne68 (i + 14) (by omega)).trans f_has
  have f_gave := (hne68 (i + 15) (by omega)).trans f_gave
  have f_drawnIn := (hne68 (i + 16) (by omega)).trans f_drawnIn
  have f_expects := (hne68 (i + 17) (by omega)).trans f_expects
  have hfr : ∀ j, ¬ (i ≤ j) → w67 j = w j := fun j a0 => (hne68 j (by omega)).trans (hfr j a0)
  refine lv_aload_n hx hb dX7_init_139 rfl (lv_at hl 0 rfl) ?_
  refine n_bipush hx hb dX7_init_140 (by decide) ?_
  refine n_newa (atype := .long) (n := 28) (av := .inr (.inl (fun _ => jI 0))) hE hx hb (hts _ (nT_m wa_long)) rfl (fun C h9 => by cases h9) 1 rfl hK hsz (by omega) hP hS rfl (by decide) (fun cA => by rw [vp_cell_l]; rfl) (by decide) (by show 17 + 1 ≤ 26; omega) (by show 1968 + 28 ≤ 22049; omega) dX7_init_142 (fun w69 H f_one hne70 hP hS => ?_)
  have f_one : w69 (i + 18) = aJ G 28 (fun _ => 0) := f_one
  have f_y := (hne70 i (by omega)).trans f_y
  have f_coins := (hne70 (i + 1) (by omega)).trans f_coins
  have f_value := (hne70 (i + 2) (by omega)).trans f_value
  have f_rates := (hne70 (i + 3) (by omega)).trans f_rates
  have f_sales := (hne70 (i + 4) (by omega)).trans f_sales
  have f_goods := (hne70 (i + 5) (by omega)).trans f_goods
  have f_prices := (hne70 (i + 6) (by omega)).trans f_prices
  have f_times := (hne70 (i + 7) (by omega)).trans f_times
  have f_steps := (hne70 (i + 8) (by omega)).trans f_steps
  have f_tills := (hne70 (i + 9) (by omega)).trans f_tills
  have f_tillSales := (hne70 (i + 10) (by omega)).trans f_tillSales
  have f_scraps := (hne70 (i + 11) (by omega)).trans f_scraps
  have f_paid := (hne70 (i + 12) (by omega)).trans f_paid
  have f_expected := (hne70 (i + 13) (by omega)).trans f_expected
  have f_has := (hne70 (i + 14) (by omega)).trans f_has
  have f_gave := (hne70 (i + 15) (by omega)).trans f_gave
  have f_drawnIn := (hne70 (i + 16) (by omega)).trans f_drawnIn
  have f_expects := (hne70 (i + 17) (by omega)).trans f_expects
  have hfr : ∀ j, ¬ (i ≤ j) → w69 j = w j := fun j a0 => (hne70 j (by omega)).trans (hfr j a0)
  have hP : va_P G.1 vwCl (nL (i + 19) ad w69) H := hP
  refine W.widen (k := 18) (n := 1996) (by omega) (by omega) ?_
  have hJ := nad_J hE (i + 19)
  refine n_putF hx hb hts u_X7 tyX7 tyX7_ok nmX7 hown hK hJ hP hS (by omega) f_y rfl 18 (by decide) (nT_m wf_X7_62) rfl hnm rfl rfl rfl (Nat.le_of_ble_eq_true rfl) dX7_init_144 (fun w71 H locs f_y hne72 hP hS => ?_)
  have f_y : w71 i = .inr (7, [.int (iI 0), .ref (ad (i + 1)), .ref (ad (i + 2)), .ref (ad (i + 3)), .ref (ad (i + 4)), .ref (ad (i + 5)), .ref (ad (i + 6)), .ref (ad (i + 7)), .ref (ad (i + 8)), .ref (ad (i + 9)), .ref (ad (i + 10)), .ref (ad (i + 11)), .ref (ad (i + 12)), .ref (ad (i + 13)), .ref (ad (i + 14)), .ref (ad (i + 15)), .ref (ad (i + 16)), .ref (ad (i + 17)), .ref (ad (i + 18)), .null, .null, .null, .null, .null, .null, .null, .null]) := f_y
  have f_coins := (hne72 (i + 1) (by omega)).trans f_coins
  have f_value := (hne72 (i + 2) (by omega)).trans f_value
  have f_rates := (hne72 (i + 3) (by omega)).trans f_rates
  have f_sales := (hne72 (i + 4) (by omega)).trans f_sales
  have f_goods := (hne72 (i + 5) (by omega)).trans f_goods
  have f_prices := (hne72 (i + 6) (by omega)).trans f_prices
  have f_times := (hne72 (i + 7) (by omega)).trans f_times
  have f_steps := (hne72 (i + 8) (by omega)).trans f_steps
  have f_tills := (hne72 (i + 9) (by omega)).trans f_tills
  have f_tillSales := (hne72 (i + 10) (by omega)).trans f_tillSales
  have f_scraps := (hne72 (i + 11) (by omega)).trans f_scraps
  have f_paid := (hne72 (i + 12) (by omega)).trans f_paid
  have f_expected := (hne72 (i + 13) (by omega)).trans f_expected
  have f_has := (hne72 (i + 14) (by omega)).trans f_has
  have f_gave := (hne72 (i + 15) (by omega)).trans f_gave
  have f_drawnIn := (hne72 (i + 16) (by omega)).trans f_drawnIn
  have f_expects := (hne72 (i + 17) (by omega)).trans f_expects
  have f_one := (hne72 (i + 18) (by omega)).trans f_one
  have hfr : ∀ j, ¬ (i ≤ j) → w71 j = w j := fun j a0 => (hne72 j (by omega)).trans (hfr j a0)
  refine lv_aload_n hx hb dX7_init_147 rfl (lv_at hl 0 rfl) ?_
  refine n_bipush hx hb dX7_init_148 (by decide) ?_
  refine n_newa (atype := .int) (n := 8) (av := .inl (fun _ => iI 0)) hE hx hb (hts _ (nT_m wa_int)) rfl (fun C h9 => by cases h9) 0 rfl hK hsz (by omega) hP hS rfl (by decide) (fun cA => by rw [vp_cell_i]; rfl) (by decide) (by show 18 + 1 ≤ 26; omega) (by show 1996 + 8 ≤ 22049; omega) dX7_init_150 (fun w73 H f_by hne74 hP hS => ?_)
  have f_by : w73 (i + 19) = aI G 8 (fun _ => 0) := f_by
  have f_y := (hne74 i (by omega)).trans f_y
  have f_coins := (hne74 (i + 1) (by omega)).trans f_coins
  have f_value := (hne74 (i + 2) (by omega)).trans f_value
  have f_rates := (hne74 (i + 3) (by omega)).trans f_rates
  have f_sales := (hne74 (i + 4) (by omega)).trans f_sales
  have f_goods := (hne74 (i + 5) (by omega)).trans f_goods
  have f_prices := (hne74 (i + 6) (by omega)).trans f_prices
  have f_times := (hne74 (i + 7) (by omega)).trans f_times
  have f_steps := (hne74 (i + 8) (by omega)).trans f_steps
  have f_tills := (hne74 (i + 9) (by omega)).trans f_tills
  have f_tillSales := (hne74 (i + 10) (by omega)).trans f_tillSales
  have f_scraps := (hne74 (i + 11) (by omega)).trans f_scraps
  have f_paid := (hne74 (i + 12) (by omega)).trans f_paid
  have f_expected := (hne74 (i + 13) (by omega)).trans f_expected
  have f_has := (hne74 (i + 14) (by omega)).trans f_has
  have f_gave := (hne74 (i + 15) (by omega)).trans f_gave
  have f_drawnIn := (hne74 (i + 16) (by omega)).trans f_drawnIn
  have f_expects := (hne74 (i + 17) (by omega)).trans f_expects
  have f_one := (hne74 (i + 18) (by omega)).trans f_one
  have hfr : ∀ j, ¬ (i ≤ j) → w73 j = w j := fun j a0 => (hne74 j (by omega)).trans (hfr j a0)
  have hP : va_P G.1 vwCl (nL (i + 20) ad w73) H := hP
  refine W.widen (k := 19) (n := 2004) (by omega) (by omega) ?_
  have hJ := nad_J hE (i + 20)
  refine n_putF hx hb hts u_X7 tyX7 tyX7_ok nmX7 hown hK hJ hP hS (by omega) f_y rfl 19 (by decide) (nT_m wf_X7_65) rfl hnm rfl rfl rfl (Nat.le_of_ble_eq_true rfl) dX7_init_152 (fun w75 H locs f_y hne76 hP hS => ?_)
  have f_y : w75 i = .inr (7, [.int (iI 0), .ref (ad (i + 1)), .ref (ad (i + 2)), .ref (ad (i + 3)), .ref (ad (i + 4)), .ref (ad (i + 5)), .ref (ad (i + 6)), .ref (ad (i + 7)), .ref (ad (i + 8)), .ref (ad (i + 9)), .ref (ad (i + 10)), .ref (ad (i + 11)), .ref (ad (i + 12)), .ref (ad (i + 13)), .ref (ad (i + 14)), .ref (ad (i + 15)), .ref (ad (i + 16)), .ref (ad (i + 17)), .ref (ad (i + 18)), .ref (ad (i + 19)), .null, .null, .null, .null, .null, .null, .null]) := f_y
  have f_coins := (hne76 (i + 1) (by omega)).trans f_coins
  have f_value := (hne76 (i + 2) (by omega)).trans f_value
  have f_rates := (hne76 (i + 3) (by omega)).trans f_rates
  have f_sales := (hne76 (i + 4) (by omega)).trans f_sales
  have f_goods := (hne76 (i + 5) (by omega)).trans f_goods
  have f_prices := (hne76 (i + 6) (by omega)).trans f_prices
  have f_times := (hne76 (i + 7) (by omega)).trans f_times
  have f_steps := (hne76 (i + 8) (by omega)).trans f_steps
  have f_tills := (hne76 (i + 9) (by omega)).trans f_tills
  have f_tillSales := (hne76 (i + 10) (by omega)).trans f_tillSales
  have f_scraps := (hne76 (i + 11) (by omega)).trans f_scraps
  have f_paid := (hne76 (i + 12) (by omega)).trans f_paid
  have f_expected := (hne76 (i + 13) (by omega)).trans f_expected
  have f_has := (hne76 (i + 14) (by omega)).trans f_has
  have f_gave := (hne76 (i + 15) (by omega)).trans f_gave
  have f_drawnIn := (hne76 (i + 16) (by omega)).trans f_drawnIn
  have f_expects := (hne76 (i + 17) (by omega)).trans f_expects
  have f_one := (hne76 (i + 18) (by omega)).trans f_one
  have f_by := (hne76 (i + 19) (by omega)).trans f_by
  have hfr : ∀ j, ¬ (i ≤ j) → w75 j = w j := fun j a0 => (hne76 j (by omega)).trans (hfr j a0)
  refine lv_aload_n hx hb dX7_init_155 rfl (lv_at hl 0 rfl) ?_
  refine n_sipush hx hb dX7_init_156 (by decide) ?_
  refine n_newa (atype := .int) (n := 18009) (av := .inl (fun _ => iI 0)) hE hx hb (hts _ (nT_m wa_int)) rfl (fun C h9 => by cases h9) 0 rfl hK hsz (by omega) hP hS rfl (by decide) (fun cA => by rw [vp_cell_i]; rfl) (by decide) (by show 19 + 1 ≤ 26; omega) (by show 2004 + 18009 ≤ 22049; omega) dX7_init_159 (fun w77 H f_few hne78 hP hS => ?_)
  have f_few : w77 (i + 20) = aI G 18009 (fun _ => 0) := f_few
  have f_y := (hne78 i (by omega)).trans f_y
  have f_coins := (hne78 (i + 1) (by omega)).trans f_coins
  have f_value := (hne78 (i + 2) (by omega)).trans f_value
  have f_rates := (hne78 (i + 3) (by omega)).trans f_rates
  have f_sales := (hne78 (i + 4) (by omega)).trans f_sales
  have f_goods := (hne78 (i + 5) (by omega)).trans f_goods
  have f_prices := (hne78 (i + 6) (by omega)).trans f_prices
  have f_times := (hne78 (i + 7) (by omega)).trans f_times
  have f_steps := (hne78 (i + 8) (by omega)).trans f_steps
  have f_tills := (hne78 (i + 9) (by omega)).trans f_tills
  have f_tillSales := (hne78 (i + 10) (by omega)).trans f_tillSales
  have f_scraps := (hne78 (i + 11) (by omega)).trans f_scraps
  have f_paid := (hne78 (i + 12) (by omega)).trans f_paid
  have f_expected := (hne78 (i + 13) (by omega)).trans f_expected
  have f_has := (hne78 (i + 14) (by omega)).trans f_has
  have f_gave := (hne78 (i + 15) (by omega)).trans f_gave
  have f_drawnIn := (hne78 (i + 16) (by omega)).trans f_drawnIn
  have f_expects := (hne78 (i + 17) (by omega)).trans f_expects
  have f_one := (hne78 (i + 18) (by omega)).trans f_one
  have f_by := (hne78 (i + 19) (by omega)).trans f_by
  have hfr : ∀ j, ¬ (i ≤ j) → w77 j = w j := fun j a0 => (hne78 j (by omega)).trans (hfr j a0)
  have hP : va_P G.1 vwCl (nL (i + 21) ad w77) H := hP
  refine W.widen (k := 20) (n := 20013) (by omega) (by omega) ?_
  have hJ := nad_J hE (i + 21)
  refine n_putF hx hb hts u_X7 tyX7 tyX7_ok nmX7 hown hK hJ hP hS (by omega) f_y rfl 20 (by decide) (nT_m wf_X7_68) rfl hnm rfl rfl rfl (Nat.le_of_ble_eq_true rfl) dX7_init_161 (fun w79 H locs f_y hne80 hP hS => ?_)
  have f_y : w79 i = .inr (7, [.int (iI 0), .ref (ad (i + 1)), .ref (ad (i + 2)), .ref (ad (i + 3)), .ref (ad (i + 4)), .ref (ad (i + 5)), .ref (ad (i + 6)), .ref (ad (i + 7)), .ref (ad (i + 8)), .ref (ad (i + 9)), .ref (ad (i + 10)), .ref (ad (i + 11)), .ref (ad (i + 12)), .ref (ad (i + 13)), .ref (ad (i + 14)), .ref (ad (i + 15)), .ref (ad (i + 16)), .ref (ad (i + 17)), .ref (ad (i + 18)), .ref (ad (i + 19)), .ref (ad (i + 20)), .null, .null, .null, .null, .null, .null]) := f_y
  have f_coins := (hne80 (i + 1) (by omega)).trans f_coins
  have f_value := (hne80 (i + 2) (by omega)).trans f_value
  have f_rates := (hne80 (i + 3) (by omega)).trans f_rates
  have f_sales := (hne80 (i + 4) (by omega)).trans f_sales
  have f_goods := (hne80 (i + 5) (by omega)).trans f_goods
  have f_prices := (hne80 (i + 6) (by omega)).trans f_prices
  have f_times := (hne80 (i + 7) (by omega)).trans f_times
  have f_steps := (hne80 (i + 8) (by omega)).trans f_steps
  have f_tills := (hne80 (i + 9) (by omega)).trans f_tills
  have f_tillSales := (hne80 (i + 10) (by omega)).trans f_tillSales
  have f_scraps := (hne80 (i + 11) (by omega)).trans f_scraps
  have f_paid := (hne80 (i + 12) (by omega)).trans f_paid
  have f_expected := (hne80 (i + 13) (by omega)).trans f_expected
  have f_has := (hne80 (i + 14) (by omega)).trans f_has
  have f_gave := (hne80 (i + 15) (by omega)).trans f_gave
  have f_drawnIn := (hne80 (i + 16) (by omega)).trans f_drawnIn
  have f_expects := (hne80 (i + 17) (by omega)).trans f_expects
  have f_one := (hne80 (i + 18) (by omega)).trans f_one
  have f_by := (hne80 (i + 19) (by omega)).trans f_by
  have f_few := (hne80 (i + 20) (by omega)).trans f_few
  have hfr : ∀ j, ¬ (i ≤ j) → w79 j = w j := fun j a0 => (hne80 j (by omega)).trans (hfr j a0)
  refine lv_aload_n hx hb dX7_init_164 rfl (lv_at hl 0 rfl) ?_
  refine n_bipush hx hb dX7_init_165 (by decide) ?_
  refine n_newa (atype := .int) (n := 8) (av := .inl (fun _ => iI 0)) hE hx hb (hts _ (nT_m wa_int)) rfl (fun C h9 => by cases h9) 0 rfl hK hsz (by omega) hP hS rfl (by decide) (fun cA => by rw [vp_cell_i]; rfl) (by decide) (by show 20 + 1 ≤ 26; omega) (by show 20013 + 8 ≤ 22049; omega) dX7_init_167 (fun w81 H f_take hne82 hP hS => ?_)
  have f_take : w81 (i + 21) = aI G 8 (fun _ => 0) := f_take
  have f_y := (hne82 i (by omega)).trans f_y
  have f_coins := (hne82 (i + 1) (by omega)).trans f_coins
  have f_value := (hne82 (i + 2) (by omega)).trans f_value
  have f_rates := (hne82 (i + 3) (by omega)).trans f_rates
  have f_sales := (hne82 (i + 4) (by omega)).trans f_sales
  have f_goods := (hne82 (i + 5) (by omega)).trans f_goods
  have f_prices := (hne82 (i + 6) (by omega)).trans f_prices
  have f_times := (hne82 (i + 7) (by omega)).trans f_times
  have f_steps := (hne82 (i + 8) (by omega)).trans f_steps
  have f_tills := (hne82 (i + 9) (by omega)).trans f_tills
  have f_tillSales := (hne82 (i + 10) (by omega)).trans f_tillSales
  have f_scraps := (hne82 (i + 11) (by omega)).trans f_scraps
  have f_paid := (hne82 (i + 12) (by omega)).trans f_paid
  have f_expected := (hne82 (i + 13) (by omega)).trans f_expected
  have f_has := (hne82 (i + 14) (by omega)).trans f_has
  have f_gave := (hne82 (i + 15) (by omega)).trans f_gave
  have f_drawnIn := (hne82 (i + 16) (by omega)).trans f_drawnIn
  have f_expects := (hne82 (i + 17) (by omega)).trans f_expects
  have f_one := (hne82 (i + 18) (by omega)).trans f_one
  have f_by := (hne82 (i + 19) (by omega)).trans f_by
  have f_few := (hne82 (i + 20) (by omega)).trans f_few
  have hfr : ∀ j, ¬ (i ≤ j) → w81 j = w j := fun j a0 => (hne82 j (by omega)).trans (hfr j a0)
  have hP : va_P G.1 vwCl (nL (i + 22) ad w81) H := hP
  refine W.widen (k := 21) (n := 20021) (by omega) (by omega) ?_
  have hJ := nad_J hE (i + 22)
  refine n_putF hx hb hts u_X7 tyX7 tyX7_ok nmX7 hown hK hJ hP hS (by omega) f_y rfl 21 (by decide) (nT_m wf_X7_71) rfl hnm rfl rfl rfl (Nat.le_of_ble_eq_true rfl) dX7_init_169 (fun w83 H locs f_y hne84 hP hS => ?_)
  have f_y : w83 i = .inr (7, [.int (iI 0), .ref (ad (i + 1)), .ref (ad (i + 2)), .ref (ad (i + 3)), .ref (ad (i + 4)), .ref (ad (i + 5)), .ref (ad (i + 6)), .ref (ad (i + 7)), .ref (ad (i + 8)), .ref (ad (i + 9)), .ref (ad (i + 10)), .ref (ad (i + 11)), .ref (ad (i + 12)), .ref (ad (i + 13)), .ref (ad (i + 14)), .ref (ad (i + 15)), .ref (ad (i + 16)), .ref (ad (i + 17)), .ref (ad (i + 18)), .ref (ad (i + 19)), .ref (ad (i + 20)), .ref (ad (i + 21)), .null, .null, .null, .null, .null]) := f_y
  have f_coins := (hne84 (i + 1) (by omega)).trans f_coins
  have f_value := (hne84 (i + 2) (by omega)).trans f_value
  have f_rates := (hne84 (i + 3) (by omega)).trans f_rates
  have f_sales := (hne84 (i + 4) (by omega)).trans f_sales
  have f_goods := (hne84 (i + 5) (by omega)).trans f_goods
  have f_prices := (hne84 (i + 6) (by omega)).trans f_prices
  have f_times := (hne84 (i + 7) (by omega)).trans f_times
  have f_steps := (hne84 (i + 8) (by omega)).trans f_steps
  have f_tills := (hne84 (i + 9) (by omega)).trans f_tills
  have f_tillSales := (hne84 (i + 10) (by omega)).trans f_tillSales
  have f_scraps := (hne84 (i + 11) (by omega)).trans f_scraps
  have f_paid := (hne84 (i + 12) (by omega)).trans f_paid
  have f_expected := (hne84 (i + 13) (by omega)).trans f_expected
  have f_has := (hne84 (i + 14) (by omega)).trans f_has
  have f_gave := (hne84 (i + 15) (by omega)).trans f_gave
  have f_drawnIn := (hne84 (i + 16) (by omega)).trans f_drawnIn
  have f_expects := (hne84 (i + 17) (by omega)).trans f_expects
  have f_one := (hne84 (i + 18) (by omega)).trans f_one
  have f_by := (hne84 (i + 19) (by omega)).trans f_by
  have f_few := (hne84 (i + 20) (by omega)).trans f_few
  have f_take := (hne84 (i + 21) (by omega)).trans f_take
  have hfr : ∀ j, ¬ (i ≤ j) → w83 j = w j := fun j a0 => (hne84 j (by omega)).trans (hfr j a0)
  refine lv_aload_n hx hb dX7_init_172 rfl (lv_at hl 0 rfl) ?_
  refine n_bipush hx hb dX7_init_173 (by decide) ?_
  refine n_newa (atype := .int) (n := 8) (av := .inl (fun _ => iI 0)) hE hx hb (hts _ (nT_m wa_int)) rfl (fun C h9 => by cases h9) 0 rfl hK hsz (by omega) hP hS rfl (by decide) (fun cA => by rw [vp_cell_i]; rfl) (by decide) (by show 21 + 1 ≤ 26; omega) (by show 20021 + 8 ≤ 22049; omega) dX7_init_175 (fun w85 H f_bound hne86 hP hS => ?_)
  have f_bound : w85 (i + 22) = aI G 8 (fun _ => 0) := f_bound
  have f_y := (hne86 i (by omega)).trans f_y
  have f_coins := (hne86 (i + 1) (by omega)).trans f_coins
  have f_value := (hne86 (i + 2) (by omega)).trans f_value
  have f_rates := (hne86 (i + 3) (by omega)).trans f_rates
  have f_sales := (hne86 (i + 4) (by omega)).trans f_sales
  have f_goods := (hne86 (i + 5) (by omega)).trans f_goods
  have f_prices := (hne86 (i + 6) (by omega)).trans f_prices
  have f_times := (hne86 (i + 7) (by omega)).trans f_times
  have f_steps := (hne86 (i + 8) (by omega)).trans f_steps
  have f_tills := (hne86 (i + 9) (by omega)).trans f_tills
  have f_tillSales := (hne86 (i + 10) (by omega)).trans f_tillSales
  have f_scraps := (hne86 (i + 11) (by omega)).trans f_scraps
  have f_paid := (hne86 (i + 12) (by omega)).trans f_paid
  have f_expected := (hne86 (i + 13) (by omega)).trans f_expected
  have f_has := (hne86 (i + 14) (by omega)).trans f_has
  have f_gave := (hne86 (i + 15) (by omega)).trans f_gave
  have f_drawnIn := (hne86 (i + 16) (by omega)).trans f_drawnIn
  have f_expects := (hne86 (i + 17) (by omega)).trans f_expects
  have f_one := (hne86 (i + 18) (by omega)).trans f_one
  have f_by := (hne86 (i + 19) (by omega)).trans f_by
  have f_few := (hne86 (i + 20) (by omega)).trans f_few
  have f_take := (hne86 (i + 21) (by omega)).trans f_take
  have hfr : ∀ j, ¬ (i ≤ j) → w85 j = w j := fun j a0 => (hne86 j (by omega)).trans (hfr j a0)
  have hP : va_P G.1 vwCl (nL (i + 23) ad w85) H := hP
  refine W.widen (k := 22) (n := 20029) (by omega) (by omega) ?_
  have hJ := nad_J hE (i + 23)
  refine n_putF hx hb hts u_X7 tyX7 tyX7_ok nmX7 hown hK hJ hP hS (by omega) f_y rfl 22 (by decide) (nT_m wf_X7_74) rfl hnm rfl rfl rfl (Nat.le_of_ble_eq_true rfl) dX7_init_177 (fun w87 H locs f_y hne88 hP hS => ?_)
  have f_y : w87 i = .inr (7, [.int (iI 0), .ref (ad (i + 1)), .ref (ad (i + 2)), .ref (ad (i + 3)), .ref (ad (i + 4)), .ref (ad (i + 5)), .ref (ad (i + 6)), .ref (ad (i + 7)), .ref (ad (i + 8)), .ref (ad (i + 9)), .ref (ad (i + 10)), .ref (ad (i + 11)), .ref (ad (i + 12)), .ref (ad (i + 13)), .ref (ad (i + 14)), .ref (ad (i + 15)), .ref (ad (i + 16)), .ref (ad (i + 17)), .ref (ad (i + 18)), .ref (ad (i + 19)), .ref (ad (i + 20)), .ref (ad (i + 21)), .ref (ad (i + 22)), .null, .null, .null, .null]) := f_y
  have f_coins := (hne88 (i + 1) (by omega)).trans f_coins
  have f_value := (hne88 (i + 2) (by omega)).trans f_value
  have f_rates := (hne88 (i + 3) (by omega)).trans f_rates
  have f_sales := (hne88 (i + 4) (by omega)).trans f_sales
  have f_goods := (hne88 (i + 5) (by omega)).trans f_goods
  have f_prices := (hne88 (i + 6) (by omega)).trans f_prices
  have f_times := (hne88 (i + 7) (by omega)).trans f_times
  have f_steps := (hne88 (i + 8) (by omega)).trans f_steps
  have f_tills := (hne88 (i + 9) (by omega)).trans f_tills
  have f_tillSales := (hne88 (i + 10) (by omega)).trans f_tillSales
  have f_scraps := (hne88 (i + 11) (by omega)).trans f_scraps
  have f_paid := (hne88 (i + 12) (by omega)).trans f_paid
  have f_expected := (hne88 (i + 13) (by omega)).trans f_expected
  have f_has := (hne88 (i + 14) (by omega)).trans f_has
  have f_gave := (hne88 (i + 15) (by omega)).trans f_gave
  have f_drawnIn := (hne88 (i + 16) (by omega)).trans f_drawnIn
  have f_expects := (hne88 (i + 17) (by omega)).trans f_expects
  have f_one := (hne88 (i + 18) (by omega)).trans f_one
  have f_by := (hne88 (i + 19) (by omega)).trans f_by
  have f_few := (hne88 (i + 20) (by omega)).trans f_few
  have f_take := (hne88 (i + 21) (by omega)).trans f_take
  have f_bound := (hne88 (i + 22) (by omega)).trans f_bound
  have hfr : ∀ j, ¬ (i ≤ j) → w87 j = w j := fun j a0 => (hne88 j (by omega)).trans (hfr j a0)
  refine lv_aload_n hx hb dX7_init_180 rfl (lv_at hl 0 rfl) ?_
  refine n_sipush hx hb dX7_init_181 (by decide) ?_
  refine n_newa (atype := .int) (n := 2001) (av := .inl (fun _ => iI 0)) hE hx hb (hts _ (nT_m wa_int)) rfl (fun C h9 => by cases h9) 0 rfl hK hsz (by omega) hP hS rfl (by decide) (fun cA => by rw [vp_cell_i]; rfl) (by decide) (by show 22 + 1 ≤ 26; omega) (by show 20029 + 2001 ≤ 22049; omega) dX7_init_184 (fun w89 H f_least hne90 hP hS => ?_)
  have f_least : w89 (i + 23) = aI G 2001 (fun _ => 0) := f_least
  have f_y := (hne90 i (by omega)).trans f_y
  have f_coins := (hne90 (i + 1) (by omega)).trans f_coins
  have f_value := (hne90 (i + 2) (by omega)).trans f_value
  have f_rates := (hne90 (i + 3) (by omega)).trans f_rates
  have f_sales := (hne90 (i + 4) (by omega)).trans f_sales
  have f_goods := (hne90 (i + 5) (by omega)).trans f_goods
  have f_prices := (hne90 (i + 6) (by omega)).trans f_prices
  have f_times := (hne90 (i + 7) (by omega)).trans f_times
  have f_steps := (hne90 (i + 8) (by omega)).trans f_steps
  have f_tills := (hne90 (i + 9) (by omega)).trans f_tills
  have f_tillSales := (hne90 (i + 10) (by omega)).trans f_tillSales
  have f_scraps := (hne90 (i + 11) (by omega)).trans f_scraps
  have f_paid := (hne90 (i + 12) (by omega)).trans f_paid
  have f_expected := (hne90 (i + 13) (by omega)).trans f_expected
  have f_has := (hne90 (i + 14) (by omega)).trans f_has
  have f_gave := (hne90 (i + 15) (by omega)).trans f_gave
  have f_drawnIn := (hne90 (i + 16) (by omega)).trans f_drawnIn
  have f_expects := (hne90 (i + 17) (by omega)).trans f_expects
  have f_one := (hne90 (i + 18) (by omega)).trans f_one
  have f_by := (hne90 (i + 19) (by omega)).trans f_by
  have f_few := (hne90 (i + 20) (by omega)).trans f_few
  have f_take := (hne90 (i + 21) (by omega)).trans f_take
  have f_bound := (hne90 (i + 22) (by omega)).trans f_bound
  have hfr : ∀ j, ¬ (i ≤ j) → w89 j = w j := fun j a0 => (hne90 j (by omega)).trans (hfr j a0)
  have hP : va_P G.1 vwCl (nL (i + 24) ad w89) H := hP
  refine W.widen (k := 23) (n := 22030) (by omega) (by omega) ?_
  have hJ := nad_J hE (i + 24)
  refine n_putF hx hb hts u_X7 tyX7 tyX7_ok nmX7 hown hK hJ hP hS (by omega) f_y rfl 23 (by decide) (nT_m wf_X7_77) rfl hnm rfl rfl rfl (Nat.le_of_ble_eq_true rfl) dX7_init_186 (fun w91 H locs f_y hne92 hP hS => ?_)
  have f_y : w91 i = .inr (7, [.int (iI 0), .ref (ad (i + 1)), .ref (ad (i + 2)), .ref (ad (i + 3)), .ref (ad (i + 4)), .ref (ad (i + 5)), .ref (ad (i + 6)), .ref (ad (i + 7)), .ref (ad (i + 8)), .ref (ad (i + 9)), .ref (ad (i + 10)), .ref (ad (i + 11)), .ref (ad (i + 12)), .ref (ad (i + 13)), .ref (ad (i + 14)), .ref (ad (i + 15)), .ref (ad (i + 16)), .ref (ad (i + 17)), .ref (ad (i + 18)), .ref (ad (i + 19)), .ref (ad (i + 20)), .ref (ad (i + 21)), .ref (ad (i + 22)), .ref (ad (i + 23)), .null, .null, .null]) := f_y
  have f_coins := (hne92 (i + 1) (by omega)).trans f_coins
  have f_value := (hne92 (i + 2) (by omega)).trans f_value
  have f_rates := (hne92 (i + 3) (by omega)).trans f_rates
  have f_sales := (hne92 (i + 4) (by omega)).trans f_sales
  have f_goods := (hne92 (i + 5) (by omega)).trans f_goods
  have f_prices := (hne92 (i + 6) (by omega)).trans f_prices
  have f_times := (hne92 (i + 7) (by omega)).trans f_times
  have f_steps := (hne92 (i + 8) (by omega)).trans f_steps
  have f_tills := (hne92 (i + 9) (by omega)).trans f_tills
  have f_tillSales := (hne92 (i + 10) (by omega)).trans f_tillSales
  have f_scraps := (hne92 (i + 11) (by omega)).trans f_scraps
  have f_paid := (hne92 (i + 12) (by omega)).trans f_paid
  have f_expected := (hne92 (i + 13) (by omega)).trans f_expected
  have f_has := (hne92 (i + 14) (by omega)).trans f_has
  have f_gave := (hne92 (i + 15) (by omega)).trans f_gave
  have f_drawnIn := (hne92 (i + 16) (by omega)).trans f_drawnIn
  have f_expects := (hne92 (i + 17) (by omega)).trans f_expects
  have f_one := (hne92 (i + 18) (by omega)).trans f_one
  have f_by := (hne92 (i + 19) (by omega)).trans f_by
  have f_few := (hne92 (i + 20) (by omega)).trans f_few
  have f_take := (hne92 (i + 21) (by omega)).trans f_take
  have f_bound := (hne92 (i + 22) (by omega)).trans f_bound
  have f_least := (hne92 (i + 23) (by omega)).trans f_least
  have hfr : ∀ j, ¬ (i ≤ j) → w91 j = w j := fun j a0 => (hne92 j (by omega)).trans (hfr j a0)
  refine lv_aload_n hx hb dX7_init_189 rfl (lv_at hl 0 rfl) ?_
  refine n_bipush hx hb dX7_init_190 (by decide) ?_
  refine n_newa (atype := .int) (n := 8) (av := .inl (fun _ => iI 0)) hE hx hb (hts _ (nT_m wa_int)) rfl (fun C h9 => by cases h9) 0 rfl hK hsz (by omega) hP hS rfl (by decide) (fun cA => by rw [vp_cell_i]; rfl) (by decide) (by show 23 + 1 ≤ 26; omega) (by show 22030 + 8 ≤ 22049; omega) dX7_init_192 (fun w93 H f_pool hne94 hP hS => ?_)
  have f_pool : w93 (i + 24) = aI G 8 (fun _ => 0) := f_pool
  have f_y := (hne94 i (by omega)).trans f_y
  have f_coins := (hne94 (i + 1) (by omega)).trans f_coins
  have f_value := (hne94 (i + 2) (by omega)).trans f_value
  have f_rates := (hne94 (i + 3) (by omega)).trans f_rates
  have f_sales := (hne94 (i + 4) (by omega)).trans f_sales
  have f_goods := (hne94 (i + 5) (by omega)).trans f_goods
  have f_prices := (hne94 (i + 6) (by omega)).trans f_prices
  have f_times := (hne94 (i + 7) (by omega)).trans f_times
  have f_steps := (hne94 (i + 8) (by omega)).trans f_steps
  have f_tills := (hne94 (i + 9) (by omega)).trans f_tills
  have f_tillSales := (hne94 (i + 10) (by omega)).trans f_tillSales
  have f_scraps := (hne94 (i + 11) (by omega)).trans f_scraps
  have f_paid := (hne94 (i + 12) (by omega)).trans f_paid
  have f_expected := (hne94 (i + 13) (by omega)).trans f_expected
  have f_has := (hne94 (i + 14) (by omega)).trans f_has
  have f_gave := (hne94 (i + 15) (by omega)).trans f_gave
  have f_drawnIn := (hne94 (i + 16) (by omega)).trans f_drawnIn
  have f_expects := (hne94 (i + 17) (by omega)).trans f_expects
  have f_one := (hne94 (i + 18) (by omega)).trans f_one
  have f_by := (hne94 (i + 19) (by omega)).trans f_by
  have f_few := (hne94 (i + 20) (by omega)).trans f_few
  have f_take := (hne94 (i + 21) (by omega)).trans f_take
  have f_bound := (hne94 (i + 22) (by omega)).trans f_bound
  have f_least := (hne94 (i + 23) (by omega)).trans f_least
  have hfr : ∀ j, ¬ (i ≤ j) → w93 j = w j := fun j a0 => (hne94 j (by omega)).trans (hfr j a0)
  have hP : va_P G.1 vwCl (nL (i + 25) ad w93) H := hP
  refine W.widen (k := 24) (n := 22038) (by omega) (by omega) ?_
  have hJ := nad_J hE (i + 25)
  refine n_putF hx hb hts u_X7 tyX7 tyX7_ok nmX7 hown hK hJ hP hS (by omega) f_y rfl 24 (by decide) (nT_m wf_X7_80) rfl hnm rfl rfl rfl (Nat.le_of_ble_eq_true rfl) dX7_init_194 (fun w95 H locs f_y hne96 hP hS => ?_)
  have f_y : w95 i = .inr (7, [.int (iI 0), .ref (ad (i + 1)), .ref (ad (i + 2)), .ref (ad (i + 3)), .ref (ad (i + 4)), .ref (ad (i + 5)), .ref (ad (i + 6)), .ref (ad (i + 7)), .ref (ad (i + 8)), .ref (ad (i + 9)), .ref (ad (i + 10)), .ref (ad (i + 11)), .ref (ad (i + 12)), .ref (ad (i + 13)), .ref (ad (i + 14)), .ref (ad (i + 15)), .ref (ad (i + 16)), .ref (ad (i + 17)), .ref (ad (i + 18)), .ref (ad (i + 19)), .ref (ad (i + 20)), .ref (ad (i + 21)), .ref (ad (i + 22)), .ref (ad (i + 23)), .ref (ad (i + 24)), .null, .null]) := f_y
  have f_coins := (hne96 (i + 1) (by omega)).trans f_coins
  have f_value := (hne96 (i + 2) (by omega)).trans f_value
  have f_rates := (hne96 (i + 3) (by omega)).trans f_rates
  have f_sales := (hne96 (i + 4) (by omega)).trans f_sales
  have f_goods := (hne96 (i + 5) (by omega)).trans f_goods
  have f_prices := (hne96 (i + 6) (by omega)).trans f_prices
  have f_times := (hne96 (i + 7) (by omega)).trans f_times
  have f_steps := (hne96 (i + 8) (by omega)).trans f_steps
  have f_tills := (hne96 (i + 9) (by omega)).trans f_tills
  have f_tillSales := (hne96 (i + 10) (by omega)).trans f_tillSales
  have f_scraps := (hne96 (i + 11) (by omega)).trans f_scraps
  have f_paid := (hne96 (i + 12) (by omega)).trans f_paid
  have f_expected := (hne96 (i + 13) (by omega)).trans f_expected
  have f_has := (hne96 (i + 14) (by omega)).trans f_has
  have f_gave := (hne96 (i + 15) (by omega)).trans f_gave
  have f_drawnIn := (hne96 (i + 16) (by omega)).trans f_drawnIn
  have f_expects := (hne96 (i + 17) (by omega)).trans f_expects
  have f_one := (hne96 (i + 18) (by omega)).trans f_one
  have f_by := (hne96 (i + 19) (by omega)).trans f_by
  have f_few := (hne96 (i + 20) (by omega)).trans f_few
  have f_take := (hne96 (i + 21) (by omega)).trans f_take
  have f_bound := (hne96 (i + 22) (by omega)).trans f_bound
  have f_least := (hne96 (i + 23) (by omega)).trans f_least
  have f_pool := (hne96 (i + 24) (by omega)).trans f_pool
  have hfr : ∀ j, ¬ (i ≤ j) → w95 j = w j := fun j a0 => (hne96 j (by omega)).trans (hfr j a0)
  refine lv_aload_n hx hb dX7_init_197 rfl (lv_at hl 0 rfl) ?_
  refine n_bipush hx hb dX7_init_198 (by decide) ?_
  refine n_newa (atype := .int) (n := 8) (av := .inl (fun _ => iI 0)) hE hx hb (hts _ (nT_m wa_int)) rfl (fun C h9 => by cases h9) 0 rfl hK hsz (by omega) hP hS rfl (by decide) (fun cA => by rw [vp_cell_i]; rfl) (by decide) (by show 24 + 1 ≤ 26; omega) (by show 22038 + 8 ≤ 22049; omega) dX7_init_200 (fun w97 H f_want hne98 hP hS => ?_)
  have f_want : w97 (i + 25) = aI G 8 (fun _ => 0) := f_want
  have f_y := (hne98 i (by omega)).trans f_y
  have f_coins := (hne98 (i + 1) (by omega)).trans f_coins
  have f_value := (hne98 (i + 2) (by omega)).trans f_value
  have f_rates := (hne98 (i + 3) (by omega)).trans f_rates
  have f_sales := (hne98 (i + 4) (by omega)).trans f_sales
  have f_goods := (hne98 (i + 5) (by omega)).trans f_goods
  have f_prices := (hne98 (i + 6) (by omega)).trans f_prices
  have f_times := (hne98 (i + 7) (by omega)).trans f_times
  have f_steps := (hne98 (i + 8) (by omega)).trans f_steps
  have f_tills := (hne98 (i + 9) (by omega)).trans f_tills
  have f_tillSales := (hne98 (i + 10) (by omega)).trans f_tillSales
  have f_scraps := (hne98 (i + 11) (by omega)).trans f_scraps
  have f_paid := (hne98 (i + 12) (by omega)).trans f_paid
  have f_expected := (hne98 (i + 13) (by omega)).trans f_expected
  have f_has := (hne98 (i + 14) (by omega)).trans f_has
  have f_gave := (hne98 (i + 15) (by omega)).trans f_gave
  have f_drawnIn := (hne98 (i + 16) (by omega)).trans f_drawnIn
  have f_expects := (hne98 (i + 17) (by omega)).trans f_expects
  have f_one := (hne98 (i + 18) (by omega)).trans f_one
  have f_by := (hne98 (i + 19) (by omega)).trans f_by
  have f_few := (hne98 (i + 20) (by omega)).trans f_few
  have f_take := (hne98 (i + 21) (by omega)).trans f_take
  have f_bound := (hne98 (i + 22) (by omega)).trans f_bound
  have f_least := (hne98 (i + 23) (by omega)).trans f_least
  have f_pool := (hne98 (i + 24) (by omega)).trans f_pool
  have hfr : ∀ j, ¬ (i ≤ j) → w97 j = w j := fun j a0 => (hne98 j (by omega)).trans (hfr j a0)
  have hP : va_P G.1 vwCl (nL (i + 26) ad w97) H := hP
  refine W.widen (k := 25) (n := 22046) (by omega) (by omega) ?_
  have hJ := nad_J hE (i + 26)
  refine n_putF hx hb hts u_X7 tyX7 tyX7_ok nmX7 hown hK hJ hP hS (by omega) f_y rfl 25 (by decide) (nT_m wf_X7_83) rfl hnm rfl rfl rfl (Nat.le_of_ble_eq_true rfl) dX7_init_202 (fun w99 H locs f_y hne100 hP hS => ?_)
  have f_y : w99 i = .inr (7, [.int (iI 0), .ref (ad (i + 1)), .ref (ad (i + 2)), .ref (ad (i + 3)), .ref (ad (i + 4)), .ref (ad (i + 5)), .ref (ad (i + 6)), .ref (ad (i + 7)), .ref (ad (i + 8)), .ref (ad (i + 9)), .ref (ad (i + 10)), .ref (ad (i + 11)), .ref (ad (i + 12)), .ref (ad (i + 13)), .ref (ad (i + 14)), .ref (ad (i + 15)), .ref (ad (i + 16)), .ref (ad (i + 17)), .ref (ad (i + 18)), .ref (ad (i + 19)), .ref (ad (i + 20)), .ref (ad (i + 21)), .ref (ad (i + 22)), .ref (ad (i + 23)), .ref (ad (i + 24)), .ref (ad (i + 25)), .null]) := f_y
  have f_coins := (hne100 (i + 1) (by omega)).trans f_coins
  have f_value := (hne100 (i + 2) (by omega)).trans f_value
  have f_rates := (hne100 (i + 3) (by omega)).trans f_rates
  have f_sales := (hne100 (i + 4) (by omega)).trans f_sales
  have f_goods := (hne100 (i + 5) (by omega)).trans f_goods
  have f_prices := (hne100 (i + 6) (by omega)).trans f_prices
  have f_times := (hne100 (i + 7) (by omega)).trans f_times
  have f_steps := (hne100 (i + 8) (by omega)).trans f_steps
  have f_tills := (hne100 (i + 9) (by omega)).trans f_tills
  have f_tillSales := (hne100 (i + 10) (by omega)).trans f_tillSales
  have f_scraps := (hne100 (i + 11) (by omega)).trans f_scraps
  have f_paid := (hne100 (i + 12) (by omega)).trans f_paid
  have f_expected := (hne100 (i + 13) (by omega)).trans f_expected
  have f_has := (hne100 (i + 14) (by omega)).trans f_has
  have f_gave := (hne100 (i + 15) (by omega)).trans f_gave
  have f_drawnIn := (hne100 (i + 16) (by omega)).trans f_drawnIn
  have f_expects := (hne100 (i + 17) (by omega)).trans f_expects
  have f_one := (hne100 (i + 18) (by omega)).trans f_one
  have f_by := (hne100 (i + 19) (by omega)).trans f_by
  have f_few := (hne100 (i + 20) (by omega)).trans f_few
  have f_take := (hne100 (i + 21) (by omega)).trans f_take
  have f_bound := (hne100 (i + 22) (by omega)).trans f_bound
  have f_least := (hne100 (i + 23) (by omega)).trans f_least
  have f_pool := (hne100 (i + 24) (by omega)).trans f_pool
  have f_want := (hne100 (i + 25) (by omega)).trans f_want
  have hfr : ∀ j, ¬ (i ≤ j) → w99 j = w j := fun j a0 => (hne100 j (by omega)).trans (hfr j a0)
  refine lv_aload_n hx hb dX7_init_205 rfl (lv_at hl 0 rfl) ?_
  refine n_iconst hx hb dX7_init_206 ?_
  refine n_newa (atype := .boolean) (n := 3) (av := .inl (fun _ => iI 0)) hE hx hb (hts _ (nT_m wa_boolean)) rfl (fun C h9 => by cases h9) 2 rfl hK hsz (by omega) hP hS rfl (by decide) (fun cA => by rw [vp_cell_i]; rfl) (by decide) (by show 25 + 1 ≤ 26; omega) (by show 22046 + 3 ≤ 22049; omega) dX7_init_207 (fun w101 H f_kept hne102 hP hS => ?_)
  have f_kept : w101 (i + 26) = aZ G 3 (fun _ => 0) := f_kept
  have f_y := (hne102 i (by omega)).trans f_y
  have f_coins := (hne102 (i + 1) (by omega)).trans f_coins
  have f_value := (hne102 (i + 2) (by omega)).trans f_value
  have f_rates := (hne102 (i + 3) (by omega)).trans f_rates
  have f_sales := (hne102 (i + 4) (by omega)).trans f_sales
  have f_goods := (hne102 (i + 5) (by omega)).trans f_goods
  have f_prices := (hne102 (i + 6) (by omega)).trans f_prices
  have f_times := (hne102 (i + 7) (by omega)).trans f_times
  have f_steps := (hne102 (i + 8) (by omega)).trans f_steps
  have f_tills := (hne102 (i + 9) (by omega)).trans f_tills
  have f_tillSales := (hne102 (i + 10) (by omega)).trans f_tillSales
  have f_scraps := (hne102 (i + 11) (by omega)).trans f_scraps
  have f_paid := (hne102 (i + 12) (by omega)).trans f_paid
  have f_expected := (hne102 (i + 13) (by omega)).trans f_expected
  have f_has := (hne102 (i + 14) (by omega)).trans f_has
  have f_gave := (hne102 (i + 15) (by omega)).trans f_gave
  have f_drawnIn := (hne102 (i + 16) (by omega)).trans f_drawnIn
  have f_expects := (hne102 (i + 17) (by omega)).trans f_expects
  have f_one := (hne102 (i + 18) (by omega)).trans f_one
  have f_by := (hne102 (i + 19) (by omega)).trans f_by
  have f_few := (hne102 (i + 20) (by omega)).trans f_few
  have f_take := (hne102 (i + 21) (by omega)).trans f_take
  have f_bound := (hne102 (i + 22) (by omega)).trans f_bound
  have f_least := (hne102 (i + 23) (by omega)).trans f_least
  have f_pool := (hne102 (i + 24) (by omega)).trans f_pool
  have f_want := (hne102 (i + 25) (by omega)).trans f_want
  have hfr : ∀ j, ¬ (i ≤ j) → w101 j = w j := fun j a0 => (hne102 j (by omega)).trans (hfr j a0)
  have hP : va_P G.1 vwCl (nL (i + 27) ad w101) H := hP
  refine W.widen (k := 26) (n := 22049) (by omega) (by omega) ?_
  have hJ := nad_J hE (i + 27)
  refine n_putF hx hb hts u_X7 tyX7 tyX7_ok nmX7 hown hK hJ hP hS (by omega) f_y rfl 26 (by decide) (nT_m wf_X7_86) rfl hnm rfl rfl rfl (Nat.le_of_ble_eq_true rfl) dX7_init_209 (fun w103 H locs f_y hne104 hP hS => ?_)
  have f_y : w103 i = .inr (7, [.int (iI 0), .ref (ad (i + 1)), .ref (ad (i + 2)), .ref (ad (i + 3)), .ref (ad (i + 4)), .ref (ad (i + 5)), .ref (ad (i + 6)), .ref (ad (i + 7)), .ref (ad (i + 8)), .ref (ad (i + 9)), .ref (ad (i + 10)), .ref (ad (i + 11)), .ref (ad (i + 12)), .ref (ad (i + 13)), .ref (ad (i + 14)), .ref (ad (i + 15)), .ref (ad (i + 16)), .ref (ad (i + 17)), .ref (ad (i + 18)), .ref (ad (i + 19)), .ref (ad (i + 20)), .ref (ad (i + 21)), .ref (ad (i + 22)), .ref (ad (i + 23)), .ref (ad (i + 24)), .ref (ad (i + 25)), .ref (ad (i + 26))]) := f_y
  have f_coins := (hne104 (i + 1) (by omega)).trans f_coins
  have f_value := (hne104 (i + 2) (by omega)).trans f_value
  have f_rates := (hne104 (i + 3) (by omega)).trans f_rates
  have f_sales := (hne104 (i + 4) (by omega)).trans f_sales
  have f_goods := (hne104 (i + 5) (by omega)).trans f_goods
  have f_prices := (hne104 (i + 6) (by omega)).trans f_prices
  have f_times := (hne104 (i + 7) (by omega)).trans f_times
  have f_steps := (hne104 (i + 8) (by omega)).trans f_steps
  have f_tills := (hne104 (i + 9) (by omega)).trans f_tills
  have f_tillSales := (hne104 (i + 10) (by omega)).trans f_tillSales
  have f_scraps := (hne104 (i + 11) (by omega)).trans f_scraps
  have f_paid := (hne104 (i + 12) (by omega)).trans f_paid
  have f_expected := (hne104 (i + 13) (by omega)).trans f_expected
  have f_has := (hne104 (i + 14) (by omega)).trans f_has
  have f_gave := (hne104 (i + 15) (by omega)).trans f_gave
  have f_drawnIn := (hne104 (i + 16) (by omega)).trans f_drawnIn
  have f_expects := (hne104 (i + 17) (by omega)).trans f_expects
  have f_one := (hne104 (i + 18) (by omega)).trans f_one
  have f_by := (hne104 (i + 19) (by omega)).trans f_by
  have f_few := (hne104 (i + 20) (by omega)).trans f_few
  have f_take := (hne104 (i + 21) (by omega)).trans f_take
  have f_bound := (hne104 (i + 22) (by omega)).trans f_bound
  have f_least := (hne104 (i + 23) (by omega)).trans f_least
  have f_pool := (hne104 (i + 24) (by omega)).trans f_pool
  have f_want := (hne104 (i + 25) (by omega)).trans f_want
  have f_kept := (hne104 (i + 26) (by omega)).trans f_kept
  have hfr : ∀ j, ¬ (i ≤ j) → w103 j = w j := fun j a0 => (hne104 j (by omega)).trans (hfr j a0)
  refine lv_aload_n hx hb dX7_init_212 rfl (lv_at hl 0 rfl) ?_
  refine n_get hx hb hts u_X7 hown hK hP (by omega) f_y rfl 3 (by decide) (nT_m wf_X7_16) rfl dX7_init_213 ?_
  refine n_iconst hx hb dX7_init_216 ?_
  refine n_iconst hx hb dX7_init_217 ?_
  have hJ := nad_J hE (i + 27)
  refine n_iast hx hb hK hJ hP hS 0 (by omega) f_rates (by omega) (by omega) (by decide) dX7_init_218 (fun w105 H locs f_rates hne106 hP hS => ?_)
  have f_y := (hne106 i (by omega)).trans f_y
  have f_coins := (hne106 (i + 1) (by omega)).trans f_coins
  have f_value := (hne106 (i + 2) (by omega)).trans f_value
  have f_sales := (hne106 (i + 4) (by omega)).trans f_sales
  have f_goods := (hne106 (i + 5) (by omega)).trans f_goods
  have f_prices := (hne106 (i + 6) (by omega)).trans f_prices
  have f_times := (hne106 (i + 7) (by omega)).trans f_times
  have f_steps := (hne106 (i + 8) (by omega)).trans f_steps
  have f_tills := (hne106 (i + 9) (by omega)).trans f_tills
  have f_tillSales := (hne106 (i + 10) (by omega)).trans f_tillSales
  have f_scraps := (hne106 (i + 11) (by omega)).trans f_scraps
  have f_paid := (hne106 (i + 12) (by omega)).trans f_paid
  have f_expected := (hne106 (i + 13) (by omega)).trans f_expected
  have f_has := (hne106 (i + 14) (by omega)).trans f_has
  have f_gave := (hne106 (i + 15) (by omega)).trans f_gave
  have f_drawnIn := (hne106 (i + 16) (by omega)).trans f_drawnIn
  have f_expects := (hne106 (i + 17) (by omega)).trans f_expects
  have f_one := (hne106 (i + 18) (by omega)).trans f_one
  have f_by := (hne106 (i + 19) (by omega)).trans f_by
  have f_few := (hne106 (i + 20) (by omega)).trans f_few
  have f_take := (hne106 (i + 21) (by omega)).trans f_take
  have f_bound := (hne106 (i + 22) (by omega)).trans f_bound
  have f_least := (hne106 (i + 23) (by omega)).trans f_least
  have f_pool := (hne106 (i + 24) (by omega)).trans f_pool
  have f_want := (hne106 (i + 25) (by omega)).trans f_want
  have f_kept := (hne106 (i + 26) (by omega)).trans f_kept
  have hfr : ∀ j, ¬ (i ≤ j) → w105 j = w j := fun j a0 => (hne106 j (by omega)).trans (hfr j a0)
  refine lv_aload_n hx hb dX7_init_219 rfl (lv_at hl 0 rfl) ?_
  refine n_get hx hb hts u_X7 hown hK hP (by omega) f_y rfl 3 (by decide) (nT_m wf_X7_16) rfl dX7_init_220 ?_
  refine n_iconst hx hb dX7_init_223 ?_
  refine n_iconst hx hb dX7_init_224 ?_
  have hJ := nad_J hE (i + 27)
  refine n_iast hx hb hK hJ hP hS 1 (by omega) f_rates (by omega) (by omega) (by decide) dX7_init_225 (fun w107 H locs f_rates hne108 hP hS => ?_)
  have f_y := (hne108 i (by omega)).trans f_y
  have f_coins := (hne108 (i + 1) (by omega)).trans f_coins
  have f_value := (hne108 (i + 2) (by omega)).trans f_value
  have f_sales := (hne108 (i + 4) (by omega)).trans f_sales
  have f_goods := (hne108 (i + 5) (by omega)).trans f_goods
  have f_prices := (hne108 (i + 6) (by omega)).trans f_prices
  have f_times := (hne108 (i + 7) (by omega)).trans f_times
  have f_steps := (hne108 (i + 8) (by omega)).trans f_steps
  have f_tills := (hne108 (i + 9) (by omega)).trans f_tills
  have f_tillSales := (hne108 (i + 10) (by omega)).trans f_tillSales
  have f_scraps := (hne108 (i + 11) (by omega)).trans f_scraps
  have f_paid := (hne108 (i + 12) (by omega)).trans f_paid
  have f_expected := (hne108 (i + 13) (by omega)).trans f_expected
  have f_has := (hne108 (i + 14) (by omega)).trans f_has
  have f_gave := (hne108 (i + 15) (by omega)).trans f_gave
  have f_drawnIn := (hne108 (i + 16) (by omega)).trans f_drawnIn
  have f_expects := (hne108 (i + 17) (by omega)).trans f_expects
  have f_one := (hne108 (i + 18) (by omega)).trans f_one
  have f_by := (hne108 (i + 19) (by omega)).trans f_by
  have f_few := (hne108 (i + 20) (by omega)).trans f_few
  have f_take := (hne108 (i + 21) (by omega)).trans f_take
  have f_bound := (hne108 (i + 22) (by omega)).trans f_bound
  have f_least := (hne108 (i + 23) (by omega)).trans f_least
  have f_pool := (hne108 (i + 24) (by omega)).trans f_pool
  have f_want := (hne108 (i + 25) (by omega)).trans f_want
  have f_kept := (hne108 (i + 26) (by omega)).trans f_kept
  have hfr : ∀ j, ¬ (i ≤ j) → w107 j = w j := fun j a0 => (hne108 j (by omega)).trans (hfr j a0)
  refine lv_aload_n hx hb dX7_init_226 rfl (lv_at hl 0 rfl) ?_
  refine n_get hx hb hts u_X7 hown hK hP (by omega) f_y rfl 8 (by decide) (nT_m wf_X7_31) rfl dX7_init_227 ?_
  refine n_iconst hx hb dX7_init_230 ?_
  refine n_iconst hx hb dX7_init_231 ?_
  have hJ := nad_J hE (i + 27)
  refine n_iast hx hb hK hJ hP hS 0 (by omega) f_steps (by omega) (by omega) (by decide) dX7_init_232 (fun w109 H locs f_steps hne110 hP hS => ?_)
  have f_y := (hne110 i (by omega)).trans f_y
  have f_coins := (hne110 (i + 1) (by omega)).trans f_coins
  have f_value := (hne110 (i + 2) (by omega)).trans f_value
  have f_rates := (hne110 (i + 3) (by omega)).trans f_rates
  have f_sales := (hne110 (i + 4) (by omega)).trans f_sales
  have f_goods := (hne110 (i + 5) (by omega)).trans f_goods
  have f_prices := (hne110 (i + 6) (by omega)).trans f_prices
  have f_times := (hne110 (i + 7) (by omega)).trans f_times
  have f_tills := (hne110 (i + 9) (by omega)).trans f_tills
  have f_tillSales := (hne110 (i + 10) (by omega)).trans f_tillSales
  have f_scraps := (hne110 (i + 11) (by omega)).trans f_scraps
  have f_paid := (hne110 (i + 12) (by omega)).trans f_paid
  have f_expected := (hne110 (i + 13) (by omega)).trans f_expected
  have f_has := (hne110 (i + 14) (by omega)).trans f_has
  have f_gave := (hne110 (i + 15) (by omega)).trans f_gave
  have f_drawnIn := (hne110 (i + 16) (by omega)).trans f_drawnIn
  have f_expects := (hne110 (i + 17) (by omega)).trans f_expects
  have f_one := (hne110 (i + 18) (by omega)).trans f_one
  have f_by := (hne110 (i + 19) (by omega)).trans f_by
  have f_few := (hne110 (i + 20) (by omega)).trans f_few
  have f_take := (hne110 (i + 21) (by omega)).trans f_take
  have f_bound := (hne110 (i + 22) (by omega)).trans f_bound
  have f_least := (hne110 (i + 23) (by omega)).trans f_least
  have f_pool := (hne110 (i + 24) (by omega)).trans f_pool
  have f_want := (hne110 (i + 25) (by omega)).trans f_want
  have f_kept := (hne110 (i + 26) (by omega)).trans f_kept
  have hfr : ∀ j, ¬ (i ≤ j) → w109 j = w j := fun j a0 => (hne110 j (by omega)).trans (hfr j a0)
  refine n_vretN (K := 26) hQ hx hb hr hlocks hP hS dX7_init_233 ?_
  exact ⟨hfr, f_y, f_coins, f_value, f_rates, f_sales, f_goods, f_prices, f_times, f_steps, f_tills, f_tillSales, f_scraps, f_paid, f_expected, f_has, f_gave, f_drawnIn, f_expects, f_one, f_by, f_few, f_take, f_bound, f_least, f_pool, f_want, f_kept⟩
