
theorem arrV_c {cA : ClassId} {n : Nat} {f g : Nat → Value} (h : ∀ k, k < n → f k = g k) : arrV cA n f = arrV cA n g := by
  unfold arrV
  have e : (fun j : Fin n => f j.val) = fun j : Fin n => g j.val := funext fun j => h j.val j.isLt
  rw [e]
theorem n_rep {G : nG} {N : Nat} {ad : Nat → Nat} {w : Nat → va_E} {H : Heap} {i n : Nat} {F F2 : Nat → Int} (hi : i < N) (he : w i = aI G n F) (hF : ∀ k, k < n → F k = F2 k) (hP : va_P G.1 vwCl (nL N ad w) H) : va_P G.1 vwCl (nL N ad (va_up w i (aI G n F2))) H := by
  intro k q hk
  rw [nL_at] at hk
  by_cases hkN : k < N
  · rw [if_pos hkN] at hk
    cases hk
    by_cases e : k = i
    · subst e
      have h1 := hP k _ (nL_get hi he)
      rw [va_up_self]
      show H[ad k]? = some (vp_cell _ _)
      have h2 : H[ad k]? = some (vp_cell (G.2 0) (n, .inl (fun j => iI (F j)))) := h1
      rw [h2, vp_cell_i, vp_cell_i]
      exact congrArg some (arrV_c fun q hq => by rw [hF q hq])
    · rw [va_up_ne _ _ e]
      exact hP k _ (nL_get hkN rfl)
  · rw [if_neg hkN] at hk
    cases hk
theorem n_copy {p : Program} {l : Launch} {e : Env} {R : Room} {s : State} {m : MethodId} {args : Array Value} {below : List Frame} {meth : Method} {c : Code} {H : Heap} {locs : List Loc} {cells slots : Nat} {Q : State → Prop} {cc : ByteArray} {pc : Nat} {ls : Array Slot} {rest : List Value} {G : nG} {N : Nat} {ad : Nat → Nat} {w : Nat → va_E} {A : Nat → Prop} {H0 : Heap} (hx : p.tables.exec = Jvm.exec) (hb : c.code = cc) (hml : c.maxLocals = ls.size) {own : String} {index : Nat} (hown : s.vm.findClass own = some m.cls) (hlink : (Cond.methodLink own index arraycopyName).before args s = true) (hnat : (Cond.native arraycopyName).before args s = true) (hstat : (Cond.static arraycopyName).before args s = true) (hini : (Cond.initialized "java/lang/System").before args s = true) (hK : nK G s) (hJ : nJ A N ad) (hP : va_P G.1 vwCl (nL N ad w) H) (hS : va_S A H0 H locs) {i0 i1 n : Nat} {F F1 : Nat → Int} {z : Int} (h0 : i0 < N) (h1 : i1 < N) (e0 : w i0 = aI G n F) (e1 : w i1 = aI G n F1) (hz : z = (n : Int)) (hn : n < 2147483648) (hframes : 1 ≤ R.frames) (hlocals : (rest.map fun v => v.category).sum + (nativeFrameWords "java/lang/System" "arraycopy" 5 + 11) ≤ R.locals) (hdg : decode cc pc = .ok (.invokestatic index, 3)) (kk : ∀ (w1 : Nat → va_E) (H1 : Heap) (locs1 : List Loc), w1 i1 = aI G n F → (∀ j, j ≠ i1 → w1 j = w j) → va_P G.1 vwCl (nL N ad w1) H1 → va_S A H0 H1 locs1 → W p l e R s m args below meth c H1 locs1 cells slots Q (F0 m (pc + 3) ls rest)) : W p l e R s m args below meth c H locs cells slots Q (F0 m pc ls (.int (iI z) :: .int (iI 0) :: .ref (ad i1) :: .int (iI 0) :: .ref (ad i0) :: rest)) := by
  subst hz
  have ec : (iI (n : Int)).toNatClampNeg = n := iI_cl hn
  have e00 : (iI 0).toNatClampNeg = 0 := rfl
  have hn0 : ¬ iI (n : Int) < 0 := fun q => by
    have := (iI_lt (a := (n : Int)) (b := 0) (by omega) (by decide)).mp q
    omega
  refine va_copyi hx hb hml hown hlink hnat hstat hini hK.1 hP (hJ.D w) hS i0 i1 0 0 (ty := .int) (nL_get h0 e0) (nL_get h1 e1) rfl rfl rfl (by decide) (by decide) hn0 (by rw [ec, e00]; omega) (by rw [ec, e00]; omega) (fun _ _ => rfl) hframes hlocals hdg (fun H1 locs1 hP1 _ hS1 => ?_)
  rw [nL_set] at hP1
  have h9 : (va_up w i1 (.inl (G.2 0, n, .inl (va_cpy (fun j => iI (F j)) (fun j => iI (F1 j)) (iI 0).toNatClampNeg (iI 0).toNatClampNeg (iI (n : Int)).toNatClampNeg)))) i1 = aI G n (va_cpy F F1 0 0 n) := by
    rw [va_up_self, ec, e00]
    have e9 : va_cpy (fun j => iI (F j)) (fun j => iI (F1 j)) 0 0 n = fun j => iI (va_cpy F F1 0 0 n j) := by
      funext j
      unfold va_cpy
      split <;> rfl
    rw [e9]
  refine kk _ H1 locs1 (va_up_self _ _ _) (fun j hj => ?_) (n_rep h1 h9 (F2 := F) (fun k hk => by
    unfold va_cpy
    rw [if_pos (by omega)]
    congr 1
    omega) hP1) hS1
  rw [va_up_ne _ _ hj, va_up_ne _ _ hj]
set_option maxHeartbeats 4000000 in
set_option maxRecDepth 100000 in
theorem c_X1_copyFrom {l : Launch} {G : nG} {N : Nat} {ad : Nat → Nat} {w : Nat → va_E} {sz : Nat} (i j0 : Nat) (cnt1 cnt2 : Nat) (val1 val2 fal1 fal2 : Nat → Nat) (lst1 lst2 : Nat → Int) (hN : i + 3 < N ∧ j0 + 3 < N) (hd : i + 3 < j0 ∨ j0 + 3 < i) (f_od : w i = .inr (1, [.int (iI ((cnt1 : Nat) : Int)), .ref (ad (i + 1)), .ref (ad (i + 2)), .ref (ad (i + 3))])) (f_vd : w (i + 1) = aI G 8 (fun q => (val1 q : Int))) (f_fd : w (i + 2) = aI G 8 (fun q => (fal1 q : Int))) (f_ld : w (i + 3) = aI G 2001 lst1) (f_os : w j0 = .inr (1, [.int (iI ((cnt2 : Nat) : Int)), .ref (ad (j0 + 1)), .ref (ad (j0 + 2)), .ref (ad (j0 + 3))])) (f_vs : w (j0 + 1) = aI G 8 (fun q => (val2 q : Int))) (f_fs : w (j0 + 2) = aI G 8 (fun q => (fal2 q : Int))) (f_ls : w (j0 + 3) = aI G 2001 lst2) : Met l yX1_copyFrom wsX1_copyFrom ({ frames := 1, cells := 0, slots := 0, locals := 18 }) (va_Pc [.ref (ad i), .ref (ad j0)] (nB G N ad w sz)) (nPv G N ad sz (fun u => (∀ j, j ≠ i → j ≠ (i + 1) → j ≠ (i + 2) → j ≠ (i + 3) → u j = w j) ∧ (u i = .inr (1, [.int (iI ((cnt2 : Nat) : Int)), .ref (ad (i + 1)), .ref (ad (i + 2)), .ref (ad (i + 3))])) ∧ (u (i + 1) = aI G 8 (fun q => (val2 q : Int))) ∧ (u (i + 2) = aI G 8 (fun q => (fal2 q : Int))) ∧ (u (i + 3) = aI G 2001 lst2))) 0 0 (nA N ad sz) := by
  refine n_ent (cc := cX1_copyFrom) (maxL := 2) (ret := (none : Option Jvm.ClassFile.FieldType)) (by decide) rfl (Nat.le_of_ble_eq_true rfl) ?_
  intro p e s m below meth cd hx hb hr hml hlocks hts hown hnm hsz hP hK hI Q hQ ls hl
  have hown : s.vm.findClass RX1 = some m.cls := hown
  subst hsz
  have hJ := hI.J s.heap.size
  have hS : va_S (nA N ad s.heap.size) s.heap s.heap [] := va_S.rf
  have hfr : ∀ j, j ≠ i → j ≠ (i + 1) → j ≠ (i + 2) → j ≠ (i + 3) → w j = w j := fun _ _ _ _ _ => rfl
  have hl : lv_has ls 2 [(0, .ref (ad i)), (1, .ref (ad j0))] := hl
  refine lv_aload_n hx hb dX1_copyFrom_0 rfl (lv_at hl 0 rfl) ?_
  refine lv_aload_n hx hb dX1_copyFrom_1 rfl (lv_at hl 1 rfl) ?_
  refine n_get hx hb hts u_X1 hown hK hP (by omega) f_os rfl 0 (by decide) (nT_m wf_X1_9) rfl dX1_copyFrom_2 ?_
  refine n_put hx hb hts u_X1 tyX1 tyX1_ok nmX1 hown hK hJ hP hS (by omega) f_od rfl 0 (by decide) (nT_m wf_X1_9) rfl rfl rfl (Nat.le_of_ble_eq_true rfl) dX1_copyFrom_5 (fun w1 H locs f_od hne2 hP hS => ?_)
  have f_od : w1 i = .inr (1, [.int (iI ((cnt2 : Nat) : Int)), .ref (ad (i + 1)), .ref (ad (i + 2)), .ref (ad (i + 3))]) := f_od
  have f_vd := (hne2 (i + 1) (by omega)).trans f_vd
  have f_fd := (hne2 (i + 2) (by omega)).trans f_fd
  have f_ld := (hne2 (i + 3) (by omega)).trans f_ld
  have f_os := (hne2 j0 (by omega)).trans f_os
  have f_vs := (hne2 (j0 + 1) (by omega)).trans f_vs
  have f_fs := (hne2 (j0 + 2) (by omega)).trans f_fs
  have f_ls := (hne2 (j0 + 3) (by omega)).trans f_ls
  have hfr : ∀ j, j ≠ i → j ≠ (i + 1) → j ≠ (i + 2) → j ≠ (i + 3) → w1 j = w j := fun j a0 a1 a2 a3 => (hne2 j (by omega)).trans (hfr j a0 a1 a2 a3)
  refine lv_aload_n hx hb dX1_copyFrom_8 rfl (lv_at hl 1 rfl) ?_
  refine n_get hx hb hts u_X1 hown hK hP (by omega) f_os rfl 1 (by decide) (nT_m wf_X1_15) rfl dX1_copyFrom_9 ?_
  refine n_iconst hx hb dX1_copyFrom_12 ?_
  refine lv_aload_n hx hb dX1_copyFrom_13 rfl (lv_at hl 0 rfl) ?_
  refine n_get hx hb hts u_X1 hown hK hP (by omega) f_od rfl 1 (by decide) (nT_m wf_X1_15) rfl dX1_copyFrom_14 ?_
  refine n_iconst hx hb dX1_copyFrom_17 ?_
  refine n_bipush hx hb dX1_copyFrom_18 (by decide) ?_
  refine n_copy hx hb (hml.trans hl.1.symm) hown (hts _ (nT_m wl_X1_31)) (hts _ (nT_m wz_arraycopyName)) (hts _ (nT_m wt_arraycopyName)) (hts _ (nT_m wn_J10)) hK hJ hP hS (by omega) (by omega) f_vs f_vd rfl (by decide) (Nat.le_of_ble_eq_true rfl) (Nat.le_of_ble_eq_true rfl) dX1_copyFrom_20 (fun w3 H locs f_vd hne4 hP hS => ?_)
  have f_od := (hne4 i (by omega)).trans f_od
  have f_fd := (hne4 (i + 2) (by omega)).trans f_fd
  have f_ld := (hne4 (i + 3) (by omega)).trans f_ld
  have f_os := (hne4 j0 (by omega)).trans f_os
  have f_vs := (hne4 (j0 + 1) (by omega)).trans f_vs
  have f_fs := (hne4 (j0 + 2) (by omega)).trans f_fs
  have f_ls := (hne4 (j0 + 3) (by omega)).trans f_ls
  have hfr : ∀ j, j ≠ i → j ≠ (i + 1) → j ≠ (i + 2) → j ≠ (i + 3) → w3 j = w j := fun j a0 a1 a2 a3 => (hne4 j (by omega)).trans (hfr j a0 a1 a2 a3)
  refine lv_aload_n hx hb dX1_copyFrom_23 rfl (lv_at hl 1 rfl) ?_
  refine n_get hx hb hts u_X1 hown hK hP (by omega) f_os rfl 2 (by decide) (nT_m wf_X1_19) rfl dX1_copyFrom_24 ?_
  refine n_iconst hx hb dX1_copyFrom_27 ?_
  refine lv_aload_n hx hb dX1_copyFrom_28 rfl (lv_at hl 0 rfl) ?_
  refine n_get hx hb hts u_X1 hown hK hP (by omega) f_od rfl 2 (by decide) (nT_m wf_X1_19) rfl dX1_copyFrom_29 ?_
  refine n_iconst hx hb dX1_copyFrom_32 ?_
  refine n_bipush hx hb dX1_copyFrom_33 (by decide) ?_
  refine n_copy hx hb (hml.trans hl.1.symm) hown (hts _ (nT_m wl_X1_31)) (hts _ (nT_m wz_arraycopyName)) (hts _ (nT_m wt_arraycopyName)) (hts _ (nT_m wn_J10)) hK hJ hP hS (by omega) (by omega) f_fs f_fd rfl (by decide) (Nat.le_of_ble_eq_true rfl) (Nat.le_of_ble_eq_true rfl) dX1_copyFrom_35 (fun w5 H locs f_fd hne6 hP hS => ?_)
  have f_od := (hne6 i (by omega)).trans f_od
  have f_vd := (hne6 (i + 1) (by omega)).trans f_vd
  have f_ld := (hne6 (i + 3) (by omega)).trans f_ld
  have f_os := (hne6 j0 (by omega)).trans f_os
  have f_vs := (hne6 (j0 + 1) (by omega)).trans f_vs
  have f_fs := (hne6 (j0 + 2) (by omega)).trans f_fs
  have f_ls := (hne6 (j0 + 3) (by omega)).trans f_ls
  have hfr : ∀ j, j ≠ i → j ≠ (i + 1) → j ≠ (i + 2) → j ≠ (i + 3) → w5 j = w j := fun j a0 a1 a2 a3 => (hne6 j (by omega)).trans (hfr j a0 a1 a2 a3)
  refine lv_aload_n hx hb dX1_copyFrom_38 rfl (lv_at hl 1 rfl) ?_
  refine n_get hx hb hts u_X1 hown hK hP (by omega) f_os rfl 3 (by decide) (nT_m wf_X1_22) rfl dX1_copyFrom_39 ?_
  refine n_iconst hx hb dX1_copyFrom_42 ?_
  refine lv_aload_n hx hb dX1_copyFrom_43 rfl (lv_at hl 0 rfl) ?_
  refine n_get hx hb hts u_X1 hown hK hP (by omega) f_od rfl 3 (by decide) (nT_m wf_X1_22) rfl dX1_copyFrom_44 ?_
  refine n_iconst hx hb dX1_copyFrom_47 ?_
  refine n_sipush hx hb dX1_copyFrom_48 (by decide) ?_
  refine n_copy hx hb (hml.trans hl.1.symm) hown (hts _ (nT_m wl_X1_31)) (hts _ (nT_m wz_arraycopyName)) (hts _ (nT_m wt_arraycopyName)) (hts _ (nT_m wn_J10)) hK hJ hP hS (by omega) (by omega) f_ls f_ld rfl (by decide) (Nat.le_of_ble_eq_true rfl) (Nat.le_of_ble_eq_true rfl) dX1_copyFrom_51 (fun w7 H locs f_ld hne8 hP hS => ?_)
  have f_od := (hne8 i (by omega)).trans f_od
  have f_vd := (hne8 (i + 1) (by omega)).trans f_vd
  have f_fd := (hne8 (i + 2) (by omega)).trans f_fd
  have f_os := (hne8 j0 (by omega)).trans f_os
  have f_vs := (hne8 (j0 + 1) (by omega)).trans f_vs
  have f_fs := (hne8 (j0 + 2) (by omega)).trans f_fs
  have f_ls := (hne8 (j0 + 3) (by omega)).trans f_ls
  have hfr : ∀ j, j ≠ i → j ≠ (i + 1) → j ≠ (i + 2) → j ≠ (i + 3) → w7 j = w j := fun j a0 a1 a2 a3 => (hne8 j (by omega)).trans (hfr j a0 a1 a2 a3)
  refine n_vretP hQ hx hb hr hlocks hP hS dX1_copyFrom_54 ?_
  exact ⟨hfr, f_od, f_vd, f_fd, f_ld⟩
set_option maxHeartbeats 4000000 in
set_option maxRecDepth 100000 in
theorem c_X3_copyFrom {l : Launch} {G : nG} {N : Nat} {ad : Nat → Nat} {w : Nat → va_E} {sz : Nat} (i j0 : Nat) (gn1 gn2 : Nat) (gp1 gp2 gt1 gt2 : Nat → Nat) (hN : i + 2 < N ∧ j0 + 2 < N) (hd : i + 2 < j0 ∨ j0 + 2 < i) (f_gd : w i = .inr (3, [.int (iI ((gn1 : Nat) : Int)), .ref (ad (i + 1)), .ref (ad (i + 2))])) (f_gpd : w (i + 1) = aI G 14 (fun q => (gp1 q : Int))) (f_gtd : w (i + 2) = aI G 14 (fun q => (gt1 q : Int))) (f_gs : w j0 = .inr (3, [.int (iI ((gn2 : Nat) : Int)), .ref (ad (j0 + 1)), .ref (ad (j0 + 2))])) (f_gps : w (j0 + 1) = aI G 14 (fun q => (gp2 q : Int))) (f_gts : w (j0 + 2) = aI G 14 (fun q => (gt2 q : Int))) : Met l yX3_copyFrom wsX3_copyFrom ({ frames := 1, cells := 0, slots := 0, locals := 18 }) (va_Pc [.ref (ad i), .ref (ad j0)] (nB G N ad w sz)) (nPv G N ad sz (fun u => (∀ j, j ≠ i → j ≠ (i + 1) → j ≠ (i + 2) → u j = w j) ∧ (u i = .inr (3, [.int (iI ((gn2 : Nat) : Int)), .ref (ad (i + 1)), .ref (ad (i + 2))])) ∧ (u (i + 1) = aI G 14 (fun q => (gp2 q : Int))) ∧ (u (i + 2) = aI G 14 (fun q => (gt2 q : Int))))) 0 0 (nA N ad sz) := by
  refine n_ent (cc := cX3_copyFrom) (maxL := 2) (ret := (none : Option Jvm.ClassFile.FieldType)) (by decide) rfl (Nat.le_of_ble_eq_true rfl) ?_
  intro p e s m below meth cd hx hb hr hml hlocks hts hown hnm hsz hP hK hI Q hQ ls hl
  have hown : s.vm.findClass RX3 = some m.cls := hown
  subst hsz
  have hJ := hI.J s.heap.size
  have hS : va_S (nA N ad s.heap.size) s.heap s.heap [] := va_S.rf
  have hfr : ∀ j, j ≠ i → j ≠ (i + 1) → j ≠ (i + 2) → w j = w j := fun _ _ _ _ => rfl
  have hl : lv_has ls 2 [(0, .ref (ad i)), (1, .ref (ad j0))] := hl
  refine lv_aload_n hx hb dX3_copyFrom_0 rfl (lv_at hl 0 rfl) ?_
  refine lv_aload_n hx hb dX3_copyFrom_1 rfl (lv_at hl 1 rfl) ?_
  refine n_get hx hb hts u_X3 hown hK hP (by omega) f_gs rfl 0 (by decide) (nT_m wf_X3_9) rfl dX3_copyFrom_2 ?_
  refine n_put hx hb hts u_X3 tyX3 tyX3_ok nmX3 hown hK hJ hP hS (by omega) f_gd rfl 0 (by decide) (nT_m wf_X3_9) rfl rfl rfl (Nat.le_of_ble_eq_true rfl) dX3_copyFrom_5 (fun w1 H locs f_gd hne2 hP hS => ?_)
  have f_gd : w1 i = .inr (3, [.int (iI ((gn2 : Nat) : Int)), .ref (ad (i + 1)), .ref (ad (i + 2))]) := f_gd
  have f_gpd := (hne2 (i + 1) (by omega)).trans f_gpd
  have f_gtd := (hne2 (i + 2) (by omega)).trans f_gtd
  have f_gs := (hne2 j0 (by omega)).trans f_gs
  have f_gps := (hne2 (j0 + 1) (by omega)).trans f_gps
  have f_gts := (hne2 (j0 + 2) (by omega)).trans f_gts
  have hfr : ∀ j, j ≠ i → j ≠ (i + 1) → j ≠ (i + 2) → w1 j = w j := fun j a0 a1 a2 => (hne2 j (by omega)).trans (hfr j a0 a1 a2)
  refine lv_aload_n hx hb dX3_copyFrom_8 rfl (lv_at hl 1 rfl) ?_
  refine n_get hx hb hts u_X3 hown hK hP (by omega) f_gs rfl 1 (by decide) (nT_m wf_X3_15) rfl dX3_copyFrom_9 ?_
  refine n_iconst hx hb dX3_copyFrom_12 ?_
  refine lv_aload_n hx hb dX3_copyFrom_13 rfl (lv_at hl 0 rfl) ?_
  refine n_get hx hb hts u_X3 hown hK hP (by omega) f_gd rfl 1 (by decide) (nT_m wf_X3_15) rfl dX3_copyFrom_14 ?_
  refine n_iconst hx hb dX3_copyFrom_17 ?_
  refine n_bipush hx hb dX3_copyFrom_18 (by decide) ?_
  refine n_copy hx hb (hml.trans hl.1.symm) hown (hts _ (nT_m wl_X3_22)) (hts _ (nT_m wz_arraycopyName)) (hts _ (nT_m wt_arraycopyName)) (hts _ (nT_m wn_J10)) hK hJ hP hS (by omega) (by omega) f_gps f_gpd rfl (by decide) (Nat.le_of_ble_eq_true rfl) (Nat.le_of_ble_eq_true rfl) dX3_copyFrom_20 (fun w3 H locs f_gpd hne4 hP hS => ?_)
  have f_gd := (hne4 i (by omega)).trans f_gd
  have f_gtd := (hne4 (i + 2) (by omega)).trans f_gtd
  have f_gs := (hne4 j0 (by omega)).trans f_gs
  have f_gps := (hne4 (j0 + 1) (by omega)).trans f_gps
  have f_gts := (hne4 (j0 + 2) (by omega)).trans f_gts
  have hfr : ∀ j, j ≠ i → j ≠ (i + 1) → j ≠ (i + 2) → w3 j = w j := fun j a0 a1 a2 => (hne4 j (by omega)).trans (hfr j a0 a1 a2)
  refine lv_aload_n hx hb dX3_copyFrom_23 rfl (lv_at hl 1 rfl) ?_
  refine n_get hx hb hts u_X3 hown hK hP (by omega) f_gs rfl 2 (by decide) (nT_m wf_X3_19) rfl dX3_copyFrom_24 ?_
  refine n_iconst hx hb dX3_copyFrom_27 ?_
  refine lv_aload_n hx hb dX3_copyFrom_28 rfl (lv_at hl 0 rfl) ?_
  refine n_get hx hb hts u_X3 hown hK hP (by omega) f_gd rfl 2 (by decide) (nT_m wf_X3_19) rfl dX3_copyFrom_29 ?_
  refine n_iconst hx hb dX3_copyFrom_32 ?_
  refine n_bipush hx hb dX3_copyFrom_33 (by decide) ?_
  refine n_copy hx hb (hml.trans hl.1.symm) hown (hts _ (nT_m wl_X3_22)) (hts _ (nT_m wz_arraycopyName)) (hts _ (nT_m wt_arraycopyName)) (hts _ (nT_m wn_J10)) hK hJ hP hS (by omega) (by omega) f_gts f_gtd rfl (by decide) (Nat.le_of_ble_eq_true rfl) (Nat.le_of_ble_eq_true rfl) dX3_copyFrom_35 (fun w5 H locs f_gtd hne6 hP hS => ?_)
  have f_gd := (hne6 i (by omega)).trans f_gd
  have f_gpd := (hne6 (i + 1) (by omega)).trans f_gpd
  have f_gs := (hne6 j0 (by omega)).trans f_gs
  have f_gps := (hne6 (j0 + 1) (by omega)).trans f_gps
  have f_gts := (hne6 (j0 + 2) (by omega)).trans f_gts
  have hfr : ∀ j, j ≠ i → j ≠ (i + 1) → j ≠ (i + 2) → w5 j = w j := fun j a0 a1 a2 => (hne6 j (by omega)).trans (hfr j a0 a1 a2)
  refine n_vretP hQ hx hb hr hlocks hP hS dX3_copyFrom_38 ?_
  exact ⟨hfr, f_gd, f_gpd, f_gtd⟩
set_option maxHeartbeats 4000000 in
set_option maxRecDepth 100000 in
theorem c_X2_copyFrom {l : Launch} {G : nG} {N : Nat} {ad : Nat → Nat} {w : Nat → va_E} {sz : Nat} (i j0 : Nat) (en1 en2 : Nat) (pr1 pr2 sq1 sq2 co1 co2 nu1 nu2 : Nat → Nat) (hN : i + 4 < N ∧ j0 + 4 < N) (hd : i + 4 < j0 ∨ j0 + 4 < i) (f_ed : w i = .inr (2, [.int (iI ((en1 : Nat) : Int)), .ref (ad (i + 1)), .ref (ad (i + 2)), .ref (ad (i + 3)), .ref (ad (i + 4))])) (f_epd : w (i + 1) = aI G 20 (fun q => (pr1 q : Int))) (f_esd : w (i + 2) = aI G 20 (fun q => (sq1 q : Int))) (f_ecd : w (i + 3) = aI G 20 (fun q => (co1 q : Int))) (f_end : w (i + 4) = aI G 20 (fun q => (nu1 q : Int))) (f_es : w j0 = .inr (2, [.int (iI ((en2 : Nat) : Int)), .ref (ad (j0 + 1)), .ref (ad (j0 + 2)), .ref (ad (j0 + 3)), .ref (ad (j0 + 4))])) (f_eps : w (j0 + 1) = aI G 20 (fun q => (pr2 q : Int))) (f_ess : w (j0 + 2) = aI G 20 (fun q => (sq2 q : Int))) (f_ecs : w (j0 + 3) = aI G 20 (fun q => (co2 q : Int))) (f_ens : w (j0 + 4) = aI G 20 (fun q => (nu2 q : Int))) : Met l yX2_copyFrom wsX2_copyFrom ({ frames := 1, cells := 0, slots := 0, locals := 18 }) (va_Pc [.ref (ad i), .ref (ad j0)] (nB G N ad w sz)) (nPv G N ad sz (fun u => (∀ j, j ≠ i → j ≠ (i + 1) → j ≠ (i + 2) → j ≠ (i + 3) → j ≠ (i + 4) → u j = w j) ∧ (u i = .inr (2, [.int (iI ((en2 : Nat) : Int)), .ref (ad (i + 1)), .ref (ad (i + 2)), .ref (ad (i + 3)), .ref (ad (i + 4))])) ∧ (u (i + 1) = aI G 20 (fun q => (pr2 q : Int))) ∧ (u (i + 2) = aI G 20 (fun q => (sq2 q : Int))) ∧ (u (i + 3) = aI G 20 (fun q => (co2 q : Int))) ∧ (u (i + 4) = aI G 20 (fun q => (nu2 q : Int))))) 0 0 (nA N ad sz) := by
  refine n_ent (cc := cX2_copyFrom) (maxL := 2) (ret := (none : Option Jvm.ClassFile.FieldType)) (by decide) rfl (Nat.le_of_ble_eq_true rfl) ?_
  intro p e s m below meth cd hx hb hr hml hlocks hts hown hnm hsz hP hK hI Q hQ ls hl
  have hown : s.vm.findClass RX2 = some m.cls := hown
  subst hsz
  have hJ := hI.J s.heap.size
  have hS : va_S (nA N ad s.heap.size) s.heap s.heap [] := va_S.rf
  have hfr : ∀ j, j ≠ i → j ≠ (i + 1) → j ≠ (i + 2) → j ≠ (i + 3) → j ≠ (i + 4) → w j = w j := fun _ _ _ _ _ _ => rfl
  have hl : lv_has ls 2 [(0, .ref (ad i)), (1, .ref (ad j0))] := hl
  refine lv_aload_n hx hb dX2_copyFrom_0 rfl (lv_at hl 0 rfl) ?_
  refine lv_aload_n hx hb dX2_copyFrom_1 rfl (lv_at hl 1 rfl) ?_
  refine n_get hx hb hts u_X2 hown hK hP (by omega) f_es rfl 0 (by decide) (nT_m wf_X2_9) rfl dX2_copyFrom_2 ?_
  refine n_put hx hb hts u_X2 tyX2 tyX2_ok nmX2 hown hK hJ hP hS (by omega) f_ed rfl 0 (by decide) (nT_m wf_X2_9) rfl rfl rfl (Nat.le_of_ble_eq_true rfl) dX2_copyFrom_5 (fun w1 H locs f_ed hne2 hP hS => ?_)
  have f_ed : w1 i = .inr (2, [.int (iI ((en2 : Nat) : Int)), .ref (ad (i + 1)), .ref (ad (i + 2)), .ref (ad (i + 3)), .ref (ad (i + 4))]) := f_ed
  have f_epd := (hne2 (i + 1) (by omega)).trans f_epd
  have f_esd := (hne2 (i + 2) (by omega)).trans f_esd
  have f_ecd := (hne2 (i + 3) (by omega)).trans f_ecd
  have f_end := (hne2 (i + 4) (by omega)).trans f_end
  have f_es := (hne2 j0 (by omega)).trans f_es
  have f_eps := (hne2 (j0 + 1) (by omega)).trans f_eps
  have f_ess := (hne2 (j0 + 2) (by omega)).trans f_ess
  have f_ecs := (hne2 (j0 + 3) (by omega)).trans f_ecs
  have f_ens := (hne2 (j0 + 4) (by omega)).trans f_ens
  have hfr : ∀ j, j ≠ i → j ≠ (i + 1) → j ≠ (i + 2) → j ≠ (i + 3) → j ≠ (i + 4) → w1 j = w j := fun j a0 a1 a2 a3 a4 => (hne2 j (by omega)).trans (hfr j a0 a1 a2 a3 a4)
  refine lv_aload_n hx hb dX2_copyFrom_8 rfl (lv_at hl 1 rfl) ?_
  refine n_get hx hb hts u_X2 hown hK hP (by omega) f_es rfl 1 (by decide) (nT_m wf_X2_15) rfl dX2_copyFrom_9 ?_
  refine n_iconst hx hb dX2_copyFrom_12 ?_
  refine lv_aload_n hx hb dX2_copyFrom_13 rfl (lv_at hl 0 rfl) ?_
  refine n_get hx hb hts u_X2 hown hK hP (by omega) f_ed rfl 1 (by decide) (nT_m wf_X2_15) rfl dX2_copyFrom_14 ?_
  refine n_iconst hx hb dX2_copyFrom_17 ?_
  refine n_bipush hx hb dX2_copyFrom_18 (by decide) ?_
  refine n_copy hx hb (hml.trans hl.1.symm) hown (hts _ (nT_m wl_X2_28)) (hts _ (nT_m wz_arraycopyName)) (hts _ (nT_m wt_arraycopyName)) (hts _ (nT_m wn_J10)) hK hJ hP hS (by omega) (by omega) f_eps f_epd rfl (by decide) (Nat.le_of_ble_eq_true rfl) (Nat.le_of_ble_eq_true rfl) dX2_copyFrom_20 (fun w3 H locs f_epd hne4 hP hS => ?_)
  have f_ed := (hne4 i (by omega)).trans f_ed
  have f_esd := (hne4 (i + 2) (by omega)).trans f_esd
  have f_ecd := (hne4 (i + 3) (by omega)).trans f_ecd
  have f_end := (hne4 (i + 4) (by omega)).trans f_end
  have f_es := (hne4 j0 (by omega)).trans f_es
  have f_eps := (hne4 (j0 + 1) (by omega)).trans f_eps
  have f_ess := (hne4 (j0 + 2) (by omega)).trans f_ess
  have f_ecs := (hne4 (j0 + 3) (by omega)).trans f_ecs
  have f_ens := (hne4 (j0 + 4) (by omega)).trans f_ens
  have hfr : ∀ j, j ≠ i → j ≠ (i + 1) → j ≠ (i + 2) → j ≠ (i + 3) → j ≠ (i + 4) → w3 j = w j := fun j a0 a1 a2 a3 a4 => (hne4 j (by omega)).trans (hfr j a0 a1 a2 a3 a4)
  refine lv_aload_n hx hb dX2_copyFrom_23 rfl (lv_at hl 1 rfl) ?_
  refine n_get hx hb hts u_X2 hown hK hP (by omega) f_es rfl 2 (by decide) (nT_m wf_X2_19) rfl dX2_copyFrom_24 ?_
  refine n_iconst hx hb dX2_copyFrom_27 ?_
  refine lv_aload_n hx hb dX2_copyFrom_28 rfl (lv_at hl 0 rfl) ?_
  refine n_get hx hb hts u_X2 hown hK hP (by omega) f_ed rfl 2 (by decide) (nT_m wf_X2_19) rfl dX2_copyFrom_29 ?_
  refine n_iconst hx hb dX2_copyFrom_32 ?_
  refine n_bipush hx hb dX2_copyFrom_33 (by decide) ?_
  refine n_copy hx hb (hml.trans hl.1.symm) hown (hts _ (nT_m wl_X2_28)) (hts _ (nT_m wz_arraycopyName)) (hts _ (nT_m wt_arraycopyName)) (hts _ (nT_m wn_J10)) hK hJ hP hS (by omega) (by omega) f_ess f_esd rfl (by decide) (Nat.le_of_ble_eq_true rfl) (Nat.le_of_ble_eq_true rfl) dX2_copyFrom_35 (fun w5 H locs f_esd hne6 hP hS => ?_)
  have f_ed := (hne6 i (by omega)).trans f_ed
  have f_epd := (hne6 (i + 1) (by omega)).trans f_epd
  have f_ecd := (hne6 (i + 3) (by omega)).trans f_ecd
  have f_end := (hne6 (i + 4) (by omega)).trans f_end
  have f_es := (hne6 j0 (by omega)).trans f_es
  have f_eps := (hne6 (j0 + 1) (by omega)).trans f_eps
  have f_ess := (hne6 (j0 + 2) (by omega)).trans f_ess
  have f_ecs := (hne6 (j0 + 3) (by omega)).trans f_ecs
  have f_ens := (hne6 (j0 + 4) (by omega)).trans f_ens
  have hfr : ∀ j, j ≠ i → j ≠ (i + 1) → j ≠ (i + 2) → j ≠ (i + 3) → j ≠ (i + 4) → w5 j = w j := fun j a0 a1 a2 a3 a4 => (hne6 j (by omega)).trans (hfr j a0 a1 a2 a3 a4)
  refine lv_aload_n hx hb dX2_copyFrom_38 rfl (lv_at hl 1 rfl) ?_
  refine n_get hx hb hts u_X2 hown hK hP (by omega) f_es rfl 3 (by decide) (nT_m wf_X2_22) rfl dX2_copyFrom_39 ?_
  refine n_iconst hx hb dX2_copyFrom_42 ?_
  refine lv_aload_n hx hb dX2_copyFrom_43 rfl (lv_at hl 0 rfl) ?_
  refine n_get hx hb hts u_X2 hown hK hP (by omega) f_ed rfl 3 (by decide) (nT_m wf_X2_22) rfl dX2_copyFrom_44 ?_
  refine n_iconst hx hb dX2_copyFrom_47 ?_
  refine n_bipush hx hb dX2_copyFrom_48 (by decide) ?_
  refine n_copy hx hb (hml.trans hl.1.symm) hown (hts _ (nT_m wl_X2_28)) (hts _ (nT_m wz_arraycopyName)) (hts _ (nT_m wt_arraycopyName)) (hts _ (nT_m wn_J10)) hK hJ hP hS (by omega) (by omega) f_ecs f_ecd rfl (by decide) (Nat.le_of_ble_eq_true rfl) (Nat.le_of_ble_eq_true rfl) dX2_copyFrom_50 (fun w7 H locs f_ecd hne8 hP hS => ?_)
  have f_ed := (hne8 i (by omega)).trans f_ed
  have f_epd := (hne8 (i + 1) (by omega)).trans f_epd
  have f_esd := (hne8 (i + 2) (by omega)).trans f_esd
  have f_end := (hne8 (i + 4) (by omega)).trans f_end
  have f_es := (hne8 j0 (by omega)).trans f_es
  have f_eps := (hne8 (j0 + 1) (by omega)).trans f_eps
  have f_ess := (hne8 (j0 + 2) (by omega)).trans f_ess
  have f_ecs := (hne8 (j0 + 3) (by omega)).trans f_ecs
  have f_ens := (hne8 (j0 + 4) (by omega)).trans f_ens
  have hfr : ∀ j, j ≠ i → j ≠ (i + 1) → j ≠ (i + 2) → j ≠ (i + 3) → j ≠ (i + 4) → w7 j = w j := fun j a0 a1 a2 a3 a4 => (hne8 j (by omega)).trans (hfr j a0 a1 a2 a3 a4)
  refine lv_aload_n hx hb dX2_copyFrom_53 rfl (lv_at hl 1 rfl) ?_
  refine n_get hx hb hts u_X2 hown hK hP (by omega) f_es rfl 4 (by decide) (nT_m wf_X2_25) rfl dX2_copyFrom_54 ?_
  refine n_iconst hx hb dX2_copyFrom_57 ?_
  refine lv_aload_n hx hb dX2_copyFrom_58 rfl (lv_at hl 0 rfl) ?_
  refine n_get hx hb hts u_X2 hown hK hP (by omega) f_ed rfl 4 (by decide) (nT_m wf_X2_25) rfl dX2_copyFrom_59 ?_
  refine n_iconst hx hb dX2_copyFrom_62 ?_
  refine n_bipush hx hb dX2_copyFrom_63 (by decide) ?_
  refine n_copy hx hb (hml.trans hl.1.symm) hown (hts _ (nT_m wl_X2_28)) (hts _ (nT_m wz_arraycopyName)) (hts _ (nT_m wt_arraycopyName)) (hts _ (nT_m wn_J10)) hK hJ hP hS (by omega) (by omega) f_ens f_end rfl (by decide) (Nat.le_of_ble_eq_true rfl) (Nat.le_of_ble_eq_true rfl) dX2_copyFrom_65 (fun w9 H locs f_end hne10 hP hS => ?_)
  have f_ed := (hne10 i (by omega)).trans f_ed
  have f_epd := (hne10 (i + 1) (by omega)).trans f_epd
  have f_esd := (hne10 (i + 2) (by omega)).trans f_esd
  have f_ecd := (hne10 (i + 3) (by omega)).trans f_ecd
  have f_es := (hne10 j0 (by omega)).trans f_es
  have f_eps := (hne10 (j0 + 1) (by omega)).trans f_eps
  have f_ess := (hne10 (j0 + 2) (by omega)).trans f_ess
  have f_ecs := (hne10 (j0 + 3) (by omega)).trans f_ecs
  have f_ens := (hne10 (j0 + 4) (by omega)).trans f_ens
  have hfr : ∀ j, j ≠ i → j ≠ (i + 1) → j ≠ (i + 2) → j ≠ (i + 3) → j ≠ (i + 4) → w9 j = w j := fun j a0 a1 a2 a3 a4 => (hne10 j (by omega)).trans (hfr j a0 a1 a2 a3 a4)
  refine n_vretP hQ hx hb hr hlocks hP hS dX2_copyFrom_68 ?_
  exact ⟨hfr, f_ed, f_epd, f_esd, f_ecd, f_end⟩
set_option maxHeartbeats 4000000 in
set_option maxRecDepth 100000 in
theorem c_X5_copyFrom {l : Launch} {G : nG} {N : Nat} {ad : Nat → Nat} {w : Nat → va_E} {sz : Nat} (i j0 : Nat) (sa1 sa2 sc1 sc2 tk1 tk2 en1 en2 : Nat) (ol1 ol2 fr1 fr2 la1 la2 pr1 pr2 sq1 sq2 co1 co2 nu1 nu2 : Nat → Nat) (hN : i + 8 < N ∧ j0 + 8 < N) (hd : i + 8 < j0 ∨ j0 + 8 < i) (f_td : w i = .inr (5, [.ref (ad (i + 1)), .ref (ad (i + 2)), .ref (ad (i + 3)), .ref (ad (i + 4)), .int (iI ((sa1 : Nat) : Int)), .long (jI ((sc1 : Nat) : Int)), .long (jI ((tk1 : Nat) : Int))])) (f_old : w (i + 1) = aI G 8 (fun q => (ol1 q : Int))) (f_frd : w (i + 2) = aI G 8 (fun q => (fr1 q : Int))) (f_lad : w (i + 3) = aI G 8 (fun q => (la1 q : Int))) (f_ed : w (i + 4) = .inr (2, [.int (iI ((en1 : Nat) : Int)), .ref (ad ((i + 4) + 1)), .ref (ad ((i + 4) + 2)), .ref (ad ((i + 4) + 3)), .ref (ad ((i + 4) + 4))])) (f_epd : w ((i + 4) + 1) = aI G 20 (fun q => (pr1 q : Int))) (f_esd : w ((i + 4) + 2) = aI G 20 (fun q => (sq1 q : Int))) (f_ecd : w ((i + 4) + 3) = aI G 20 (fun q => (co1 q : Int))) (f_end : w ((i + 4) + 4) = aI G 20 (fun q => (nu1 q : Int))) (f_ts : w j0 = .inr (5, [.ref (ad (j0 + 1)), .ref (ad (j0 + 2)), .ref (ad (j0 + 3)), .ref (ad (j0 + 4)), .int (iI ((sa2 : Nat) : Int)), .long (jI ((sc2 : Nat) : Int)), .long (jI ((tk2 : Nat) : Int))])) (f_ols : w (j0 + 1) = aI G 8 (fun q => (ol2 q : Int))) (f_frs : w (j0 + 2) = aI G 8 (fun q => (fr2 q : Int))) (f_las : w (j0 + 3) = aI G 8 (fun q => (la2 q : Int))) (f_es : w (j0 + 4) = .inr (2, [.int (iI ((en2 : Nat) : Int)), .ref (ad ((j0 + 4) + 1)), .ref (ad ((j0 + 4) + 2)), .ref (ad ((j0 + 4) + 3)), .ref (ad ((j0 + 4) + 4))])) (f_eps : w ((j0 + 4) + 1) = aI G 20 (fun q => (pr2 q : Int))) (f_ess : w ((j0 + 4) + 2) = aI G 20 (fun q => (sq2 q : Int))) (f_ecs : w ((j0 + 4) + 3) = aI G 20 (fun q => (co2 q : Int))) (f_ens : w ((j0 + 4) + 4) = aI G 20 (fun q => (nu2 q : Int))) : Met l yX5_copyFrom wsX5_copyFrom ({ frames := 2, cells := 0, slots := 0, locals := 39 }) (va_Pc [.ref (ad i), .ref (ad j0)] (nB G N ad w sz)) (nPv G N ad sz (fun u => (∀ j, j ≠ i → j ≠ (i + 1) → j ≠ (i + 2) → j ≠ (i + 3) → j ≠ (i + 4) → j ≠ ((i + 4) + 1) → j ≠ ((i + 4) + 2) → j ≠ ((i + 4) + 3) → j ≠ ((i + 4) + 4) → u j = w j) ∧ (u i = .inr (5, [.ref (ad (i + 1)), .ref (ad (i + 2)), .ref (ad (i + 3)), .ref (ad (i + 4)), .int (iI ((sa2 : Nat) : Int)), .long (jI ((sc2 : Nat) : Int)), .long (jI ((tk2 : Nat) : Int))])) ∧ (u (i + 1) = aI G 8 (fun q => (ol2 q : Int))) ∧ (u (i + 2) = aI G 8 (fun q => (fr2 q : Int))) ∧ (u (i + 3) = aI G 8 (fun q => (la2 q : Int))) ∧ (u (i + 4) = .inr (2, [.int (iI ((en2 : Nat) : Int)), .ref (ad ((i + 4) + 1)), .ref (ad ((i + 4) + 2)), .ref (ad ((i + 4) + 3)), .ref (ad ((i + 4) + 4))])) ∧ (u ((i + 4) + 1) = aI G 20 (fun q => (pr2 q : Int))) ∧ (u ((i + 4) + 2) = aI G 20 (fun q => (sq2 q : Int))) ∧ (u ((i + 4) + 3) = aI G 20 (fun q => (co2 q : Int))) ∧ (u ((i + 4) + 4) = aI G 20 (fun q => (nu2 q : Int))))) 0 0 (nA N ad sz) := by
  refine n_ent (cc := cX5_copyFrom) (maxL := 2) (ret := (none : Option Jvm.ClassFile.FieldType)) (by decide) rfl (Nat.le_of_ble_eq_true rfl) ?_
  intro p e s m below meth cd hx hb hr hml hlocks hts hown hnm hsz hP hK hI Q hQ ls hl
  have hown : s.vm.findClass RX5 = some m.cls := hown
  subst hsz
  have hJ := hI.J s.heap.size
  have hS : va_S (nA N ad s.heap.size) s.heap s.heap [] := va_S.rf
  have hfr : ∀ j, j ≠ i → j ≠ (i + 1) → j ≠ (i + 2) → j ≠ (i + 3) → j ≠ (i + 4) → j ≠ ((i + 4) + 1) → j ≠ ((i + 4) + 2) → j ≠ ((i + 4) + 3) → j ≠ ((i + 4) + 4) → w j = w j := fun _ _ _ _ _ _ _ _ _ _ => rfl
  have hl : lv_has ls 2 [(0, .ref (ad i)), (1, .ref (ad j0))] := hl
  refine lv_aload_n hx hb dX5_copyFrom_0 rfl (lv_at hl 1 rfl) ?_
  refine n_get hx hb hts u_X5 hown hK hP (by omega) f_ts rfl 0 (by decide) (nT_m wf_X5_9) rfl dX5_copyFrom_1 ?_
  refine n_iconst hx hb dX5_copyFrom_4 ?_
  refine lv_aload_n hx hb dX5_copyFrom_5 rfl (lv_at hl 0 rfl) ?_
  refine n_get hx hb hts u_X5 hown hK hP (by omega) f_td rfl 0 (by decide) (nT_m wf_X5_9) rfl dX5_copyFrom_6 ?_
  refine n_iconst hx hb dX5_copyFrom_9 ?_
  refine n_bipush hx hb dX5_copyFrom_10 (by decide) ?_
  refine n_copy hx hb (hml.trans hl.1.symm) hown (hts _ (nT_m wl_X5_39)) (hts _ (nT_m wz_arraycopyName)) (hts _ (nT_m wt_arraycopyName)) (hts _ (nT_m wn_J10)) hK hJ hP hS (by omega) (by omega) f_ols f_old rfl (by decide) (Nat.le_of_ble_eq_true rfl) (Nat.le_of_ble_eq_true rfl) dX5_copyFrom_12 (fun w1 H locs f_old hne2 hP hS => ?_)
  have f_td := (hne2 i (by omega)).trans f_td
  have f_frd := (hne2 (i + 2) (by omega)).trans f_frd
  have f_lad := (hne2 (i + 3) (by omega)).trans f_lad
  have f_ed := (hne2 (i + 4) (by omega)).trans f_ed
  have f_epd := (hne2 ((i + 4) + 1) (by omega)).trans f_epd
  have f_esd := (hne2 ((i + 4) + 2) (by omega)).trans f_esd
  have f_ecd := (hne2 ((i + 4) + 3) (by omega)).trans f_ecd
  have f_end := (hne2 ((i + 4) + 4) (by omega)).trans f_end
  have f_ts := (hne2 j0 (by omega)).trans f_ts
  have f_ols := (hne2 (j0 + 1) (by omega)).trans f_ols
  have f_frs := (hne2 (j0 + 2) (by omega)).trans f_frs
  have f_las := (hne2 (j0 + 3) (by omega)).trans f_las
  have f_es := (hne2 (j0 + 4) (by omega)).trans f_es
  have f_eps := (hne2 ((j0 + 4) + 1) (by omega)).trans f_eps
  have f_ess := (hne2 ((j0 + 4) + 2) (by omega)).trans f_ess
  have f_ecs := (hne2 ((j0 + 4) + 3) (by omega)).trans f_ecs
  have f_ens := (hne2 ((j0 + 4) + 4) (by omega)).trans f_ens
  have hfr : ∀ j, j ≠ i → j ≠ (i + 1) → j ≠ (i + 2) → j ≠ (i + 3) → j ≠ (i + 4) → j ≠ ((i + 4) + 1) → j ≠ ((i + 4) + 2) → j ≠ ((i + 4) + 3) → j ≠ ((i + 4) + 4) → w1 j = w j := fun j a0 a1 a2 a3 a4 a5 a6 a7 a8 => (hne2 j (by omega)).trans (hfr j a0 a1 a2 a3 a4 a5 a6 a7 a8)
  refine lv_aload_n hx hb dX5_copyFrom_15 rfl (lv_at hl 1 rfl) ?_
  refine n_get hx hb hts u_X5 hown hK hP (by omega) f_ts rfl 1 (by decide) (nT_m wf_X5_15) rfl dX5_copyFrom_16 ?_
  refine n_iconst hx hb dX5_copyFrom_19 ?_
  refine lv_aload_n hx hb dX5_copyFrom_20 rfl (lv_at hl 0 rfl) ?_
  refine n_get hx hb hts u_X5 hown hK hP (by omega) f_td rfl 1 (by decide) (nT_m wf_X5_15) rfl dX5_copyFrom_21 ?_
  refine n_iconst hx hb dX5_copyFrom_24 ?_
  refine n_bipush hx hb dX5_copyFrom_25 (by decide) ?_
  refine n_copy hx hb (hml.trans hl.1.symm) hown (hts _ (nT_m wl_X5_39)) (hts _ (nT_m wz_arraycopyName)) (hts _ (nT_m wt_arraycopyName)) (hts _ (nT_m wn_J10)) hK hJ hP hS (by omega) (by omega) f_frs f_frd rfl (by decide) (Nat.le_of_ble_eq_true rfl) (Nat.le_of_ble_eq_true rfl) dX5_copyFrom_27 (fun w3 H locs f_frd hne4 hP hS => ?_)
  have f_td := (hne4 i (by omega)).trans f_td
  have f_old := (hne4 (i + 1) (by omega)).trans f_old
  have f_lad := (hne4 (i + 3) (by omega)).trans f_lad
  have f_ed := (hne4 (i + 4) (by omega)).trans f_ed
  have f_epd := (hne4 ((i + 4) + 1) (by omega)).trans f_epd
  have f_esd := (hne4 ((i + 4) + 2) (by omega)).trans f_esd
  have f_ecd := (hne4 ((i + 4) + 3) (by omega)).trans f_ecd
  have f_end := (hne4 ((i + 4) + 4) (by omega)).trans f_end
  have f_ts := (hne4 j0 (by omega)).trans f_ts
  have f_ols := (hne4 (j0 + 1) (by omega)).trans f_ols
  have f_frs := (hne4 (j0 + 2) (by omega)).trans f_frs
  have f_las := (hne4 (j0 + 3) (by omega)).trans f_las
  have f_es := (hne4 (j0 + 4) (by omega)).trans f_es
  have f_eps := (hne4 ((j0 + 4) + 1) (by omega)).trans f_eps
  have f_ess := (hne4 ((j0 + 4) + 2) (by omega)).trans f_ess
  have f_ecs := (hne4 ((j0 + 4) + 3) (by omega)).trans f_ecs
  have f_ens := (hne4 ((j0 + 4) + 4) (by omega)).trans f_ens
  have hfr : ∀ j, j ≠ i → j ≠ (i + 1) → j ≠ (i + 2) → j ≠ (i + 3) → j ≠ (i + 4) → j ≠ ((i + 4) + 1) → j ≠ ((i + 4) + 2) → j ≠ ((i + 4) + 3) → j ≠ ((i + 4) + 4) → w3 j = w j := fun j a0 a1 a2 a3 a4 a5 a6 a7 a8 => (hne4 j (by omega)).trans (hfr j a0 a1 a2 a3 a4 a5 a6 a7 a8)
  refine lv_aload_n hx hb dX5_copyFrom_30 rfl (lv_at hl 1 rfl) ?_
  refine n_get hx hb hts u_X5 hown hK hP (by omega) f_ts rfl 2 (by decide) (nT_m wf_X5_18) rfl dX5_copyFrom_31 ?_
  refine n_iconst hx hb dX5_copyFrom_34 ?_
  refine lv_aload_n hx hb dX5_copyFrom_35 rfl (lv_at hl 0 rfl) ?_
  refine n_get hx hb hts u_X5 hown hK hP (by omega) f_td rfl 2 (by decide) (nT_m wf_X5_18) rfl dX5_copyFrom_36 ?_
  refine n_iconst hx hb dX5_copyFrom_39 ?_
  refine n_bipush hx hb dX5_copyFrom_40 (by decide) ?_
  refine n_copy hx hb (hml.trans hl.1.symm) hown (hts _ (nT_m wl_X5_39)) (hts _ (nT_m wz_arraycopyName)) (hts _ (nT_m wt_arraycopyName)) (hts _ (nT_m wn_J10)) hK hJ hP hS (by omega) (by omega) f_las f_lad rfl (by decide) (Nat.le_of_ble_eq_true rfl) (Nat.le_of_ble_eq_true rfl) dX5_copyFrom_42 (fun w5 H locs f_lad hne6 hP hS => ?_)
  have f_td := (hne6 i (by omega)).trans f_td
  have f_old := (hne6 (i + 1) (by omega)).trans f_old
  have f_frd := (hne6 (i + 2) (by omega)).trans f_frd
  have f_ed := (hne6 (i + 4) (by omega)).trans f_ed
  have f_epd := (hne6 ((i + 4) + 1) (by omega)).trans f_epd
  have f_esd := (hne6 ((i + 4) + 2) (by omega)).trans f_esd
  have f_ecd := (hne6 ((i + 4) + 3) (by omega)).trans f_ecd
  have f_end := (hne6 ((i + 4) + 4) (by omega)).trans f_end
  have f_ts := (hne6 j0 (by omega)).trans f_ts
  have f_ols := (hne6 (j0 + 1) (by omega)).trans f_ols
  have f_frs := (hne6 (j0 + 2) (by omega)).trans f_frs
  have f_las := (hne6 (j0 + 3) (by omega)).trans f_las
  have f_es := (hne6 (j0 + 4) (by omega)).trans f_es
  have f_eps := (hne6 ((j0 + 4) + 1) (by omega)).trans f_eps
  have f_ess := (hne6 ((j0 + 4) + 2) (by omega)).trans f_ess
  have f_ecs := (hne6 ((j0 + 4) + 3) (by omega)).trans f_ecs
  have f_ens := (hne6 ((j0 + 4) + 4) (by omega)).trans f_ens
  have hfr : ∀ j, j ≠ i → j ≠ (i + 1) → j ≠ (i + 2) → j ≠ (i + 3) → j ≠ (i + 4) → j ≠ ((i + 4) + 1) → j ≠ ((i + 4) + 2) → j ≠ ((i + 4) + 3) → j ≠ ((i + 4) + 4) → w5 j = w j := fun j a0 a1 a2 a3 a4 a5 a6 a7 a8 => (hne6 j (by omega)).trans (hfr j a0 a1 a2 a3 a4 a5 a6 a7 a8)
  refine lv_aload_n hx hb dX5_copyFrom_45 rfl (lv_at hl 0 rfl) ?_
  refine n_get hx hb hts u_X5 hown hK hP (by omega) f_td rfl 3 (by decide) (nT_m wf_X5_24) rfl dX5_copyFrom_46 ?_
  refine lv_aload_n hx hb dX5_copyFrom_49 rfl (lv_at hl 1 rfl) ?_
  refine n_get hx hb hts u_X5 hown hK hP (by omega) f_ts rfl 3 (by decide) (nT_m wf_X5_24) rfl dX5_copyFrom_50 ?_
  refine n_cV (va_runV (As := [.ref (ad (j0 + 4))]) (rest := []) ⟨hx, hb, hml, hown, hts⟩ (c_X2_copyFrom _ _ _ _ _ _ _ _ _ _ _ _ (by omega) (by omega) f_ed f_epd f_esd f_ecd f_end f_es f_eps f_ess f_ecs f_ens) (cwV 1 hts (nT_V wl_X5_45 wi_X2_copyFrom ws_X2_copyFrom wn_X2 wc_X2_copyFrom) rfl rfl rfl (by decide +kernel) ⟨Nat.le_of_ble_eq_true rfl, Nat.le_of_ble_eq_true rfl⟩) (nB.preV hK hI hP (by omega) f_ed rfl rfl) rfl rfl hl.1 rfl (lv_room (Nat.le_of_ble_eq_true rfl)) dX5_copyFrom_53 ⟨Nat.zero_le _, Nat.zero_le _⟩) hS (fun w7 H locs hq9 hP hS => ?_)
  obtain ⟨hne10, hp_e, hp_ep, hp_es, hp_ec, hp_en⟩ := hq9
  have f_td := (hne10 i (by omega) (by omega) (by omega) (by omega) (by omega)).trans f_td
  have f_old := (hne10 (i + 1) (by omega) (by omega) (by omega) (by omega) (by omega)).trans f_old
  have f_frd := (hne10 (i + 2) (by omega) (by omega) (by omega) (by omega) (by omega)).trans f_frd
  have f_lad := (hne10 (i + 3) (by omega) (by omega) (by omega) (by omega) (by omega)).trans f_lad
  have f_ts := (hne10 j0 (by omega) (by omega) (by omega) (by omega) (by omega)).trans f_ts
  have f_ols := (hne10 (j0 + 1) (by omega) (by omega) (by omega) (by omega) (by omega)).trans f_ols
  have f_frs := (hne10 (j0 + 2) (by omega) (by omega) (by omega) (by omega) (by omega)).trans f_frs
  have f_las := (hne10 (j0 + 3) (by omega) (by omega) (by omega) (by omega) (by omega)).trans f_las
  have f_es := (hne10 (j0 + 4) (by omega) (by omega) (by omega) (by omega) (by omega)).trans f_es
  have f_eps := (hne10 ((j0 + 4) + 1) (by omega) (by omega) (by omega) (by omega) (by omega)).trans f_eps
  have f_ess := (hne10 ((j0 + 4) + 2) (by omega) (by omega) (by omega) (by omega) (by omega)).trans f_ess
  have f_ecs := (hne10 ((j0 + 4) + 3) (by omega) (by omega) (by omega) (by omega) (by omega)).trans f_ecs
  have f_ens := (hne10 ((j0 + 4) + 4) (by omega) (by omega) (by omega) (by omega) (by omega)).trans f_ens
  have f_ed : w7 (i + 4) = .inr (2, [.int (iI ((en2 : Nat) : Int)), .ref (ad ((i + 4) + 1)), .ref (ad ((i + 4) + 2)), .ref (ad ((i + 4) + 3)), .ref (ad ((i + 4) + 4))]) := hp_e
  have f_epd : w7 ((i + 4) + 1) = aI G 20 (fun q => (pr2 q : Int)) := hp_ep
  have f_esd : w7 ((i + 4) + 2) = aI G 20 (fun q => (sq2 q : Int)) := hp_es
  have f_ecd : w7 ((i + 4) + 3) = aI G 20 (fun q => (co2 q : Int)) := hp_ec
  have f_end : w7 ((i + 4) + 4) = aI G 20 (fun q => (nu2 q : Int)) := hp_en
  have hfr : ∀ j, j ≠ i → j ≠ (i + 1) → j ≠ (i + 2) → j ≠ (i + 3) → j ≠ (i + 4) → j ≠ ((i + 4) + 1) → j ≠ ((i + 4) + 2) → j ≠ ((i + 4) + 3) → j ≠ ((i + 4) + 4) → w7 j = w j := fun j a0 a1 a2 a3 a4 a5 a6 a7 a8 => (hne10 j (by omega) (by omega) (by omega) (by omega) (by omega)).trans (hfr j a0 a1 a2 a3 a4 a5 a6 a7 a8)
  refine lv_aload_n hx hb dX5_copyFrom_56 rfl (lv_at hl 0 rfl) ?_
  refine lv_aload_n hx hb dX5_copyFrom_57 rfl (lv_at hl 1 rfl) ?_
  refine n_get hx hb hts u_X5 hown hK hP (by omega) f_ts rfl 4 (by decide) (nT_m wf_X5_28) rfl dX5_copyFrom_58 ?_
  refine n_put hx hb hts u_X5 tyX5 tyX5_ok nmX5 hown hK hJ hP hS (by omega) f_td rfl 4 (by decide) (nT_m wf_X5_28) rfl rfl rfl (Nat.le_of_ble_eq_true rfl) dX5_copyFrom_61 (fun w11 H locs f_td hne12 hP hS => ?_)
  have f_td : w11 i = .inr (5, [.ref (ad (i + 1)), .ref (ad (i + 2)), .ref (ad (i + 3)), .ref (ad (i + 4)), .int (iI ((sa2 : Nat) : Int)), .long (jI ((sc1 : Nat) : Int)), .long (jI ((tk1 : Nat) : Int))]) := f_td
  have f_old := (hne12 (i + 1) (by omega)).trans f_old
  have f_frd := (hne12 (i + 2) (by omega)).trans f_frd
  have f_lad := (hne12 (i + 3) (by omega)).trans f_lad
  have f_ed := (hne12 (i + 4) (by omega)).trans f_ed
  have f_epd := (hne12 ((i + 4) + 1) (by omega)).trans f_epd
  have f_esd := (hne12 ((i + 4) + 2) (by omega)).trans f_esd
  have f_ecd := (hne12 ((i + 4) + 3) (by omega)).trans f_ecd
  have f_end := (hne12 ((i + 4) + 4) (by omega)).trans f_end
  have f_ts := (hne12 j0 (by omega)).trans f_ts
  have f_ols := (hne12 (j0 + 1) (by omega)).trans f_ols
  have f_frs := (hne12 (j0 + 2) (by omega)).trans f_frs
  have f_las := (hne12 (j0 + 3) (by omega)).trans f_las
  have f_es := (hne12 (j0 + 4) (by omega)).trans f_es
  have f_eps := (hne12 ((j0 + 4) + 1) (by omega)).trans f_eps
  have f_ess := (hne12 ((j0 + 4) + 2) (by omega)).trans f_ess
  have f_ecs := (hne12 ((j0 + 4) + 3) (by omega)).trans f_ecs
  have f_ens := (hne12 ((j0 + 4) + 4) (by omega)).trans f_ens
  have hfr : ∀ j, j ≠ i → j ≠ (i + 1) → j ≠ (i + 2) → j ≠ (i + 3) → j ≠ (i + 4) → j ≠ ((i + 4) + 1) → j ≠ ((i + 4) + 2) → j ≠ ((i + 4) + 3) → j ≠ ((i + 4) + 4) → w11 j = w j := fun j a0 a1 a2 a3 a4 a5 a6 a7 a8 => (hne12 j (by omega)).trans (hfr j a0 a1 a2 a3 a4 a5 a6 a7 a8)
  refine lv_aload_n hx hb dX5_copyFrom_64 rfl (lv_at hl 0 rfl) ?_
  refine lv_aload_n hx hb dX5_copyFrom_65 rfl (lv_at hl 1 rfl) ?_
  refine n_get hx hb hts u_X5 hown hK hP (by omega) f_ts rfl 5 (by decide) (nT_m wf_X5_32) rfl dX5_copyFrom_66 ?_
  refine n_put hx hb hts u_X5 tyX5 tyX5_ok nmX5 hown hK hJ hP hS (by omega) f_td rfl 5 (by decide) (nT_m wf_X5_32) rfl rfl rfl (Nat.le_of_ble_eq_true rfl) dX5_copyFrom_69 (fun w13 H locs f_td hne14 hP hS => ?_)
  have f_td : w13 i = .inr (5, [.ref (ad (i + 1)), .ref (ad (i + 2)), .ref (ad (i + 3)), .ref (ad (i + 4)), .int (iI ((sa2 : Nat) : Int)), .long (jI ((sc2 : Nat) : Int)), .long (jI ((tk1 : Nat) : Int))]) := f_td
  have f_old := (hne14 (i + 1) (by omega)).trans f_old
  have f_frd := (hne14 (i + 2) (by omega)).trans f_frd
  have f_lad := (hne14 (i + 3) (by omega)).trans f_lad
  have f_ed := (hne14 (i + 4) (by omega)).trans f_ed
  have f_epd := (hne14 ((i + 4) + 1) (by omega)).trans f_epd
  have f_esd := (hne14 ((i + 4) + 2) (by omega)).trans f_esd
  have f_ecd := (hne14 ((i + 4) + 3) (by omega)).trans f_ecd
  have f_end := (hne14 ((i + 4) + 4) (by omega)).trans f_end
  have f_ts := (hne14 j0 (by omega)).trans f_ts
  have f_ols := (hne14 (j0 + 1) (by omega)).trans f_ols
  have f_frs := (hne14 (j0 + 2) (by omega)).trans f_frs
  have f_las := (hne14 (j0 + 3) (by omega)).trans f_las
  have f_es := (hne14 (j0 + 4) (by omega)).trans f_es
  have f_eps := (hne14 ((j0 + 4) + 1) (by omega)).trans f_eps
  have f_ess := (hne14 ((j0 + 4) + 2) (by omega)).trans f_ess
  have f_ecs := (hne14 ((j0 + 4) + 3) (by omega)).trans f_ecs
  have f_ens := (hne14 ((j0 + 4) + 4) (by omega)).trans f_ens
  have hfr : ∀ j, j ≠ i → j ≠ (i + 1) → j ≠ (i + 2) → j ≠ (i + 3) → j ≠ (i + 4) → j ≠ ((i + 4) + 1) → j ≠ ((i + 4) + 2) → j ≠ ((i + 4) + 3) → j ≠ ((i + 4) + 4) → w13 j = w j := fun j a0 a1 a2 a3 a4 a5 a6 a7 a8 => (hne14 j (by omega)).trans (hfr j a0 a1 a2 a3 a4 a5 a6 a7 a8)
  refine lv_aload_n hx hb dX5_copyFrom_72 rfl (lv_at hl 0 rfl) ?_
  refine lv_aload_n hx hb dX5_copyFrom_73 rfl (lv_at hl 1 rfl) ?_
  refine n_get hx hb hts u_X5 hown hK hP (by omega) f_ts rfl 6 (by decide) (nT_m wf_X5_36) rfl dX5_copyFrom_74 ?_
  refine n_put hx hb hts u_X5 tyX5 tyX5_ok nmX5 hown hK hJ hP hS (by omega) f_td rfl 6 (by decide) (nT_m wf_X5_36) rfl rfl rfl (Nat.le_of_ble_eq_true rfl) dX5_copyFrom_77 (fun w15 H locs f_td hne16 hP hS => ?_)
  have f_td : w15 i = .inr (5, [.ref (ad (i + 1)), .ref (ad (i + 2)), .ref (ad (i + 3)), .ref (ad (i + 4)), .int (iI ((sa2 : Nat) : Int)), .long (jI ((sc2 : Nat) : Int)), .long (jI ((tk2 : Nat) : Int))]) := f_td
  have f_old := (hne16 (i + 1) (by omega)).trans f_old
  have f_frd := (hne16 (i + 2) (by omega)).trans f_frd
  have f_lad := (hne16 (i + 3) (by omega)).trans f_lad
  have f_ed := (hne16 (i + 4) (by omega)).trans f_ed
  have f_epd := (hne16 ((i + 4) + 1) (by omega)).trans f_epd
  have f_esd := (hne16 ((i + 4) + 2) (by omega)).trans f_esd
  have f_ecd := (hne16 ((i + 4) + 3) (by omega)).trans f_ecd
  have f_end := (hne16 ((i + 4) + 4) (by omega)).trans f_end
  have f_ts := (hne16 j0 (by omega)).trans f_ts
  have f_ols := (hne16 (j0 + 1) (by omega)).trans f_ols
  have f_frs := (hne16 (j0 + 2) (by omega)).trans f_frs
  have f_las := (hne16 (j0 + 3) (by omega)).trans f_las
  have f_es := (hne16 (j0 + 4) (by omega)).trans f_es
  have f_eps := (hne16 ((j0 + 4) + 1) (by omega)).trans f_eps
  have f_ess := (hne16 ((j0 + 4) + 2) (by omega)).trans f_ess
  have f_ecs := (hne16 ((j0 + 4) + 3) (by omega)).trans f_ecs
  have f_ens := (hne16 ((j0 + 4) + 4) (by omega)).trans f_ens
  have hfr : ∀ j, j ≠ i → j ≠ (i + 1) → j ≠ (i + 2) → j ≠ (i + 3) → j ≠ (i + 4) → j ≠ ((i + 4) + 1) → j ≠ ((i + 4) + 2) → j ≠ ((i + 4) + 3) → j ≠ ((i + 4) + 4) → w15 j = w j := fun j a0 a1 a2 a3 a4 a5 a6 a7 a8 => (hne16 j (by omega)).trans (hfr j a0 a1 a2 a3 a4 a5 a6 a7 a8)
  refine n_vretP hQ hx hb hr hlocks hP hS dX5_copyFrom_80 ?_
  exact ⟨hfr, f_td, f_old, f_frd, f_lad, f_ed, f_epd, f_esd, f_ecd, f_end⟩
