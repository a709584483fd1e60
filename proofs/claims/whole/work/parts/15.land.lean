
theorem iI_and1 (k : Nat) (h : k < 2147483648) : iI (k : Int) &&& iI 1 = iI ((k % 2 : Nat) : Int) := by
  rw [← iI_nat, ← iI_nat]
  exact pk_andN (n := k) (by omega) (m := iI 1) 1 (by decide)
theorem n_iand1 {p : Program} {l : Launch} {e : Env} {R : Room} {s : State} {m : MethodId} {args : Array Value} {below : List Frame} {meth : Method} {c : Code} {H : Heap} {locs : List Loc} {cells slots : Nat} {Q : State → Prop} {cc : ByteArray} {pc : Nat} {ls : Array Slot} {rest : List Value} (hx : p.tables.exec = Jvm.exec) (hb : c.code = cc) (k : Nat) {z : Int} (hdg : decode cc pc = .ok (.iand, 1)) (hz : z = (k : Int)) (hk : k < 2147483648) (kk : W p l e R s m args below meth c H locs cells slots Q (F0 m (pc + 1) ls (.int (iI ((k % 2 : Nat) : Int)) :: rest))) : W p l e R s m args below meth c H locs cells slots Q (F0 m pc ls (.int (iI 1) :: .int (iI z) :: rest)) := by
  subst hz
  exact lv_iand hx hb hdg (by rw [iI_and1 k hk]; exact kk)
theorem nmodN (a b : Nat) : ((a : Nat) : Int) - ((a / b : Nat) : Int) * ((b : Nat) : Int) = ((a % b : Nat) : Int) := nmodI a b
def subF (fr ch : Nat → Nat) (q : Nat) : Nat → Nat := fun k => if k < q then fr k - ch k else fr k
def cpF (la ch : Nat → Nat) (q : Nat) : Nat → Nat := fun k => if k < q then ch k else la k
theorem subF_0 (fr ch : Nat → Nat) : subF fr ch 0 = fr := by
  funext k
  unfold subF
  rw [if_neg (Nat.not_lt_zero k)]
theorem cpF_0 (fr ch : Nat → Nat) : cpF fr ch 0 = fr := by
  funext k
  unfold cpF
  rw [if_neg (Nat.not_lt_zero k)]
theorem subF_at {fr ch : Nat → Nat} {q k : Nat} (h : q ≤ k) : subF fr ch q k = fr k := by
  unfold subF
  rw [if_neg (by omega)]
theorem subF_s (fr ch : Nat → Nat) (q : Nat) (h : ch q ≤ fr q) : va_up (fun k => ((subF fr ch q k : Nat) : Int)) q (((subF fr ch q q : Nat) : Int) - (ch q : Int)) = fun k => ((subF fr ch (q + 1) k : Nat) : Int) := by
  funext k
  unfold va_up subF
  by_cases e1 : k = q
  · subst e1
    rw [if_pos rfl, if_neg (by omega), if_pos (by omega)]
    omega
  · rw [if_neg e1]
    dsimp only
    by_cases h2 : k < q
    · rw [if_pos h2, if_pos (by omega)]
    · rw [if_neg h2, if_neg (by omega)]
theorem cpF_s (la ch : Nat → Nat) (q : Nat) : va_up (fun k => ((cpF la ch q k : Nat) : Int)) q (ch q : Int) = fun k => ((cpF la ch (q + 1) k : Nat) : Int) := by
  funext k
  unfold va_up cpF
  by_cases e1 : k = q
  · subst e1
    rw [if_pos rfl, if_pos (by omega)]
  · rw [if_neg e1]
    dsimp only
    by_cases h2 : k < q
    · rw [if_pos h2, if_pos (by omega)]
    · rw [if_neg h2, if_neg (by omega)]
def anyS (sa : Nat → Nat) : Nat → Bool
  | 0 => false
  | n + 1 => anyS sa n || decide (0 < sa n)
theorem anyS_up {sa : Nat → Nat} {a : Nat} (h : anyS sa a = true) : ∀ b, anyS sa (a + b) = true
  | 0 => h
  | b + 1 => by
    show (anyS sa (a + b) || _) = true
    rw [anyS_up h b]
    rfl
theorem anyS_le {sa : Nat → Nat} {a b : Nat} (h : anyS sa a = true) (hab : a ≤ b) : anyS sa b = true := by
  have := anyS_up h (b - a)
  rwa [show a + (b - a) = b by omega] at this
theorem anyS_t {sa : Nat → Nat} {n : Nat} (h : 0 < sa n) : anyS sa (n + 1) = true := by
  show (anyS sa n || decide _) = true
  simp [h]
theorem anyS_f {sa : Nat → Nat} {n : Nat} (h0 : anyS sa n = false) (h : ¬ 0 < sa n) : anyS sa (n + 1) = false := by
  show (anyS sa n || decide _) = false
  simp [h, h0]
def sumP (ct val : Nat → Nat) : Nat → Nat
  | 0 => 0
  | n + 1 => sumP ct val n + ct n * val n
def nUp (ru st ov sp : Nat) : Bool := if ru = 1 then decide (0 < ov) else if ru = 2 then decide (sp ≤ 2 * ov) else if ru = 3 then decide (sp < 2 * ov ∨ (2 * ov = sp ∧ st % 2 = 1)) else false
def nPr (pa sp stp ru : Nat) : Nat := (if nUp ru (pa / sp) (pa % sp) sp = true then pa / sp + 1 else pa / sp) * stp
theorem nPr_rng {pa sp stp ru : Nat} (h1 : pa ≤ 1000000) (h2 : stp ≤ 100) : nPr pa sp stp ru ≤ 100000100 := by
  unfold nPr
  have h3 : pa / sp ≤ pa := Nat.div_le_self _ _
  split
  · exact Nat.le_trans (Nat.mul_le_mul (show pa / sp + 1 ≤ 1000001 by omega) h2) (by decide)
  · exact Nat.le_trans (Nat.mul_le_mul (show pa / sp ≤ 1000001 by omega) h2) (by decide)
def ldG (gn : Nat) (gp gt : Nat → Nat) (z : Int) : Int := if 10 ≤ z ∧ z < 10 + (gn : Int) then (gp (z - 10).toNat : Int) else if 30 ≤ z ∧ z < 30 + (gn : Int) then (gt (z - 30).toNat : Int) else -1
def ldD (gn tn ra rb stp : Nat) (gp gt : Nat → Nat) (z : Int) : Int := if z = 0 then (gn : Int) else if z = 1 then (tn : Int) else if z = 2 then (ra : Int) else if z = 3 then (rb : Int) else if z = 4 then (stp : Int) else ldG gn gp gt z
set_option maxHeartbeats 4000000 in
set_option maxRecDepth 100000 in
theorem c_X5_close {l : Launch} {G : nG} {N : Nat} {ad : Nat → Nat} {w : Nat → va_E} {sz : Nat} (t sa sc tk pr cu rw : Nat) (fr la ch : Nat → Nat) (hN : t + 8 < N) (hrw : rw < N ∧ (rw < t ∨ t + 8 < rw)) (hpr : pr ≤ 2000) (hcu : cu < 2147483648) (hch : ∀ k, k < 8 → ch k ≤ fr k) (f_t : w t = .inr (5, [.ref (ad (t + 1)), .ref (ad (t + 2)), .ref (ad (t + 3)), .ref (ad (t + 4)), .int (iI ((sa : Nat) : Int)), .long (jI ((sc : Nat) : Int)), .long (jI ((tk : Nat) : Int))])) (f_fr : w (t + 2) = aI G 8 (fun q => (fr q : Int))) (f_la : w (t + 3) = aI G 8 (fun q => (la q : Int))) (f_ch : w rw = aI G 8 (fun q => (ch q : Int))) : Met l yX5_close wsX5_close ({ frames := 0, cells := 0, slots := 0, locals := 0 }) (va_Pc [.ref (ad t), .int (iI ((pr : Nat) : Int)), .int (iI ((cu : Nat) : Int)), .ref (ad rw)] (nB G N ad w sz)) (nPv G N ad sz (fun u => (∀ j, j ≠ t → j ≠ (t + 2) → j ≠ (t + 3) → u j = w j) ∧ (u t = .inr (5, [.ref (ad (t + 1)), .ref (ad (t + 2)), .ref (ad (t + 3)), .ref (ad (t + 4)), .int (iI ((sa + 1 : Nat) : Int)), .long (jI ((sc + cu : Nat) : Int)), .long (jI ((tk + pr : Nat) : Int))])) ∧ (u (t + 2) = aI G 8 (fun q => ((subF fr ch 8 q : Nat) : Int))) ∧ (u (t + 3) = aI G 8 (fun q => ((cpF la ch 8 q : Nat) : Int))))) 0 0 (nA N ad sz) := by
  refine n_ent (cc := cX5_close) (maxL := 5) (ret := (none : Option Jvm.ClassFile.FieldType)) (by decide) rfl (Nat.le_of_ble_eq_true rfl) ?_
  intro p e s m below meth cd hx hb hr hml hlocks hts hown hnm hsz hP hK hI Q hQ ls hl
  have hown : s.vm.findClass RX5 = some m.cls := hown
  subst hsz
  have hJ := hI.J s.heap.size
  have hS : va_S (nA N ad s.heap.size) s.heap s.heap [] := va_S.rf
  have hfr : ∀ j, j ≠ t → j ≠ (t + 2) → j ≠ (t + 3) → w j = w j := fun _ _ _ _ => rfl
  have hl : lv_has ls 5 [(0, .ref (ad t)), (1, .int (iI ((pr : Nat) : Int))), (2, .int (iI ((cu : Nat) : Int))), (3, .ref (ad rw))] := hl
  refine n_iconst hx hb dX5_close_0 ?_
  refine lv_istore (lv' := [(4, .int (iI 0)), (0, .ref (ad t)), (1, .int (iI ((pr : Nat) : Int))), (2, .int (iI ((cu : Nat) : Int))), (3, .ref (ad rw))]) hx hb dX5_close_1 hl (by decide) rfl (fun ls hl => ?_)
  have lp1 : ∀ (fu : Nat), ∀ (q : Nat), ∀ (w2 : Nat → va_E) (H : Heap) (locs : List Loc), ∀ (ls : Array Slot), 8 - q < fu → q ≤ 8 → (∀ j, j ≠ t → j ≠ (t + 2) → j ≠ (t + 3) → w2 j = w j) → w2 t = .inr (5, [.ref (ad (t + 1)), .ref (ad (t + 2)), .ref (ad (t + 3)), .ref (ad (t + 4)), .int (iI ((sa : Nat) : Int)), .long (jI ((sc : Nat) : Int)), .long (jI ((tk : Nat) : Int))]) → w2 (t + 2) = aI G 8 (fun k => ((subF fr ch q k : Nat) : Int)) → w2 (t + 3) = aI G 8 (fun k => ((cpF la ch q k : Nat) : Int)) → w2 rw = aI G 8 (fun q => (ch q : Int)) → va_P G.1 vwCl (nL N ad w2) H → va_S (nA N ad s.heap.size) s.heap H locs → lv_has ls 5 [(0, .ref (ad t)), (1, .int (iI ((pr : Nat) : Int))), (2, .int (iI ((cu : Nat) : Int))), (3, .ref (ad rw)), (4, .int (iI ((q : Nat) : Int)))] → W p l e ({ frames := 0, cells := 0, slots := 0, locals := 0 } : Room) s m ([.ref (ad t), .int (iI ((pr : Nat) : Int)), .int (iI ((cu : Nat) : Int)), .ref (ad rw)] : List Value).toArray below meth cd H locs 0 0 Q (F0 m 3 ls []) := by
    intro fu
    induction fu with
    | zero =>
      intro q w2 H locs ls hfu hq hfr f_t f_fr f_la f_ch hP hS hl
      exact absurd hfu (Nat.not_lt_zero _)
    | succ fu ih3 =>
      intro q w2 H locs ls hfu hq hfr f_t f_fr f_la f_ch hP hS hl
      refine lv_iload hx hb dX5_close_3 (lv_at hl 4 rfl) ?_
      refine n_bipush hx hb dX5_close_5 (by decide) ?_
      refine n_icmp_ge (tgt := 41) hx hb dX5_close_7 (by decide) (by omega) (by omega) (fun hc7 => ?_) (fun hc7 => ?_)
      · skip
        obtain rfl : q = 8 := by omega
        refine lv_aload_n hx hb dX5_close_41 rfl (lv_at hl 0 rfl) ?_
        refine lv_dup hx hb dX5_close_42 rfl ?_
        refine n_get hx hb hts u_X5 hown hK hP (by omega) f_t rfl 4 (by decide) (nT_m wf_X5_28) rfl dX5_close_43 ?_
        refine n_iconst hx hb dX5_close_46 ?_
        refine n_iadd hx hb dX5_close_47 ?_
        refine n_put hx hb hts u_X5 tyX5 tyX5_ok nmX5 hown hK hJ hP hS (by omega) f_t rfl 4 (by decide) (nT_m wf_X5_28) rfl rfl rfl (Nat.le_of_ble_eq_true rfl) dX5_close_48 (fun w4 H locs f_t hne5 hP hS => ?_)
        have f_t : w4 t = .inr (5, [.ref (ad (t + 1)), .ref (ad (t + 2)), .ref (ad (t + 3)), .ref (ad (t + 4)), .int (iI (((sa : Nat) : Int) + 1)), .long (jI ((sc : Nat) : Int)), .long (jI ((tk : Nat) : Int))]) := f_t
        have f_fr := (hne5 (t + 2) (by omega)).trans f_fr
        have f_la := (hne5 (t + 3) (by omega)).trans f_la
        have f_ch := (hne5 rw (by omega)).trans f_ch
        have hfr : ∀ j, j ≠ t → j ≠ (t + 2) → j ≠ (t + 3) → w4 j = w j := fun j a0 a1 a2 => (hne5 j (by omega)).trans (hfr j a0 a1 a2)
        refine lv_aload_n hx hb dX5_close_51 rfl (lv_at hl 0 rfl) ?_
        refine lv_dup hx hb dX5_close_52 rfl ?_
        refine n_get hx hb hts u_X5 hown hK hP (by omega) f_t rfl 5 (by decide) (nT_m wf_X5_32) rfl dX5_close_53 ?_
        refine lv_iload_n hx hb dX5_close_56 rfl (lv_at hl 2 rfl) ?_
        refine n_i2l hx hb dX5_close_57 (by omega) ?_
        refine n_ladd hx hb dX5_close_58 ?_
        refine n_put hx hb hts u_X5 tyX5 tyX5_ok nmX5 hown hK hJ hP hS (by omega) f_t rfl 5 (by decide) (nT_m wf_X5_32) rfl rfl rfl (Nat.le_of_ble_eq_true rfl) dX5_close_59 (fun w6 H locs f_t hne7 hP hS => ?_)
        have f_t : w6 t = .inr (5, [.ref (ad (t + 1)), .ref (ad (t + 2)), .ref (ad (t + 3)), .ref (ad (t + 4)), .int (iI (((sa : Nat) : Int) + 1)), .long (jI (((sc : Nat) : Int) + ((cu : Nat) : Int))), .long (jI ((tk : Nat) : Int))]) := f_t
        have f_fr := (hne7 (t + 2) (by omega)).trans f_fr
        have f_la := (hne7 (t + 3) (by omega)).trans f_la
        have f_ch := (hne7 rw (by omega)).trans f_ch
        have hfr : ∀ j, j ≠ t → j ≠ (t + 2) → j ≠ (t + 3) → w6 j = w j := fun j a0 a1 a2 => (hne7 j (by omega)).trans (hfr j a0 a1 a2)
        refine lv_aload_n hx hb dX5_close_62 rfl (lv_at hl 0 rfl) ?_
        refine lv_dup hx hb dX5_close_63 rfl ?_
        refine n_get hx hb hts u_X5 hown hK hP (by omega) f_t rfl 6 (by decide) (nT_m wf_X5_36) rfl dX5_close_64 ?_
        refine lv_iload_n hx hb dX5_close_67 rfl (lv_at hl 1 rfl) ?_
        refine n_i2l hx hb dX5_close_68 (by omega) ?_
        refine n_ladd hx hb dX5_close_69 ?_
        refine n_put hx hb hts u_X5 tyX5 tyX5_ok nmX5 hown hK hJ hP hS (by omega) f_t rfl 6 (by decide) (nT_m wf_X5_36) rfl rfl rfl (Nat.le_of_ble_eq_true rfl) dX5_close_70 (fun w8 H locs f_t hne9 hP hS => ?_)
        have f_t : w8 t = .inr (5, [.ref (ad (t + 1)), .ref (ad (t + 2)), .ref (ad (t + 3)), .ref (ad (t + 4)), .int (iI (((sa : Nat) : Int) + 1)), .long (jI (((sc : Nat) : Int) + ((cu : Nat) : Int))), .long (jI (((tk : Nat) : Int) + ((pr : Nat) : Int)))]) := f_t
        have f_fr := (hne9 (t + 2) (by omega)).trans f_fr
        have f_la := (hne9 (t + 3) (by omega)).trans f_la
        have f_ch := (hne9 rw (by omega)).trans f_ch
        have hfr : ∀ j, j ≠ t → j ≠ (t + 2) → j ≠ (t + 3) → w8 j = w j := fun j a0 a1 a2 => (hne9 j (by omega)).trans (hfr j a0 a1 a2)
        refine n_vretP hQ hx hb hr hlocks hP hS dX5_close_73 ?_
        exact ⟨hfr, f_t, f_fr, f_la⟩
      · skip
        refine lv_aload_n hx hb dX5_close_10 rfl (lv_at hl 0 rfl) ?_
        refine n_get hx hb hts u_X5 hown hK hP (by omega) f_t rfl 1 (by decide) (nT_m wf_X5_15) rfl dX5_close_11 ?_
        refine lv_iload hx hb dX5_close_14 (lv_at hl 4 rfl) ?_
        refine lv_dup2_11 hx hb dX5_close_16 rfl rfl ?_
        refine n_iald hx hb hK hP q (by omega) f_fr (by omega) (by omega) (by decide) dX5_close_17 ?_
        refine lv_aload_n hx hb dX5_close_18 rfl (lv_at hl 3 rfl) ?_
        refine lv_iload hx hb dX5_close_19 (lv_at hl 4 rfl) ?_
        refine n_iald hx hb hK hP q (by omega) f_ch (by omega) (by omega) (by decide) dX5_close_21 ?_
        refine n_isub hx hb dX5_close_22 ?_
        refine n_iast hx hb hK hJ hP hS q (by omega) f_fr (by omega) (by omega) (by decide) dX5_close_23 (fun w10 H locs f_fr hne11 hP hS => ?_)
        have f_t := (hne11 t (by omega)).trans f_t
        have f_la := (hne11 (t + 3) (by omega)).trans f_la
        have f_ch := (hne11 rw (by omega)).trans f_ch
        have hfr : ∀ j, j ≠ t → j ≠ (t + 2) → j ≠ (t + 3) → w10 j = w j := fun j a0 a1 a2 => (hne11 j (by omega)).trans (hfr j a0 a1 a2)
        refine lv_aload_n hx hb dX5_close_24 rfl (lv_at hl 0 rfl) ?_
        refine n_get hx hb hts u_X5 hown hK hP (by omega) f_t rfl 2 (by decide) (nT_m wf_X5_18) rfl dX5_close_25 ?_
        refine lv_iload hx hb dX5_close_28 (lv_at hl 4 rfl) ?_
        refine lv_aload_n hx hb dX5_close_30 rfl (lv_at hl 3 rfl) ?_
        refine lv_iload hx hb dX5_close_31 (lv_at hl 4 rfl) ?_
        refine n_iald hx hb hK hP q (by omega) f_ch (by omega) (by omega) (by decide) dX5_close_33 ?_
        refine n_iast hx hb hK hJ hP hS q (by omega) f_la (by omega) (by omega) (by decide) dX5_close_34 (fun w12 H locs f_la hne13 hP hS => ?_)
        have f_t := (hne13 t (by omega)).trans f_t
        have f_fr := (hne13 (t + 2) (by omega)).trans f_fr
        have f_ch := (hne13 rw (by omega)).trans f_ch
        have hfr : ∀ j, j ≠ t → j ≠ (t + 2) → j ≠ (t + 3) → w12 j = w j := fun j a0 a1 a2 => (hne13 j (by omega)).trans (hfr j a0 a1 a2)
        refine lv_iinc (v := iI (((q : Nat) : Int) + 1)) (lv' := [(4, .int (iI (((q : Nat) : Int) + 1))), (0, .ref (ad t)), (1, .int (iI ((pr : Nat) : Int))), (2, .int (iI ((cu : Nat) : Int))), (3, .ref (ad rw))]) hx hb dX5_close_35 hl (k := 4) rfl (by first | exact iI_add _ _ | exact (iI_add _ _).trans (congrArg iI (by omega))) (by decide) rfl (fun ls hl => ?_)
        refine lv_goto (tgt := 3) hx hb dX5_close_38 (by decide) ?_
        exact ih3 (q + 1) _ _ _ _ (by omega) (by omega) hfr f_t (f_fr.trans (congrArg (aI G 8) (subF_s fr ch q (hch q (by omega))))) (f_la.trans (congrArg (aI G 8) (cpF_s la ch q))) f_ch hP hS (by first | exact lv_sub hl [1, 2, 3, 4, 0] rfl | exact lv_cast (lv_sub (l' := [(0, .ref (ad t)), (1, .int (iI ((pr : Nat) : Int))), (2, .int (iI ((cu : Nat) : Int))), (3, .ref (ad rw)), (4, .int (iI (((q : Nat) : Int) + 1)))]) hl [1, 2, 3, 4, 0] rfl) (lc_s (lc_s (lc_s (lc_s (lc_i (show ((((q : Nat) : Int) + 1) : Int) = (((q + 1) : Nat) : Int) by omega) rfl))))))
  exact lp1 (8 - 0 + 1) 0 _ _ _ _ (Nat.lt_succ_self _) (by omega) hfr f_t (f_fr.trans (by rw [subF_0])) (f_la.trans (by rw [cpF_0])) f_ch hP hS (by first | exact lv_sub hl [1, 2, 3, 4, 0] rfl | exact lv_cast (lv_sub (l' := [(0, .ref (ad t)), (1, .int (iI ((pr : Nat) : Int))), (2, .int (iI ((cu : Nat) : Int))), (3, .ref (ad rw)), (4, .int (iI 0))]) hl [1, 2, 3, 4, 0] rfl) (lc_s (lc_s (lc_s (lc_s (lc_i (show (0 : Int) = ((0 : Nat) : Int) by omega) rfl))))))
set_option maxHeartbeats 4000000 in
set_option maxRecDepth 100000 in
theorem c_X4_coinageOf_y {l : Launch} {G : nG} {N : Nat} {ad : Nat → Nat} {w : Nat → va_E} {sz : Nat} (b tn ra rb stp : Nat) (sy : Nat) (hN : b + 49 < N) (hs : sy < 2) (f_L : w b = .inr (4, [.ref (ad (b + 1)), .ref (ad (b + 5)), .ref (ad (b + 9)), .ref (ad (b + 12)), .ref (ad (b + 13)), .int (iI ((tn : Nat) : Int)), .int (iI ((ra : Nat) : Int)), .int (iI ((rb : Nat) : Int)), .int (iI ((stp : Nat) : Int))])) : Met l yX4_coinageOf wsX4_coinageOf ({ frames := 0, cells := 0, slots := 0, locals := 0 }) (va_Pc [.ref (ad b), .int (iI ((sy : Nat) : Int))] (nB G N ad w sz)) (nRd (.ref (ad (b + 1 + 4 * sy)))) 0 0 (fun _ => False) := by
  refine n_ent (cc := cX4_coinageOf) (maxL := 2) (ret := (some (.object "NewCoins$Coinage"))) (by decide) rfl (Nat.le_of_ble_eq_true rfl) ?_
  intro p e s m below meth cd hx hb hr hml hlocks hts hown hnm hsz hP hK hI Q hQ ls hl
  have hown : s.vm.findClass RX4 = some m.cls := hown
  have hl : lv_has ls 2 [(0, .ref (ad b)), (1, .int (iI ((sy : Nat) : Int)))] := hl
  refine lv_iload_n hx hb dX4_coinageOf_0 rfl (lv_at hl 1 rfl) ?_
  refine n_if_ne (tgt := 9) hx hb dX4_coinageOf_1 (by decide) (by omega) (fun hc1 => ?_) (fun hc1 => ?_)
  · skip
    refine lv_iload_n hx hb dX4_coinageOf_9 rfl (lv_at hl 1 rfl) ?_
    refine n_iconst hx hb dX4_coinageOf_10 ?_
    refine n_icmp_ne (tgt := 21) hx hb dX4_coinageOf_11 (by decide) (by omega) (by omega) (fun hc11 => ?_) (fun hc11 => ?_)
    · skip
      exact absurd hc11 (by omega)
    · skip
      refine lv_aload_n hx hb dX4_coinageOf_14 rfl (lv_at hl 0 rfl) ?_
      refine n_get hx hb hts u_X4 hown hK hP (by omega) f_L rfl 1 (by decide) (nT_m wf_X4_18) rfl dX4_coinageOf_15 ?_
      refine lv_goto (tgt := 22) hx hb dX4_coinageOf_18 (by decide) ?_
      exact n_aretR hQ hx hb hr (Or.inl ⟨_, rfl⟩) hlocks (Or.inr ⟨_, rfl⟩) (by rw [show b + 1 + 4 * sy = (b + 5) by omega]) dX4_coinageOf_22
  · skip
    refine lv_aload_n hx hb dX4_coinageOf_4 rfl (lv_at hl 0 rfl) ?_
    refine n_get hx hb hts u_X4 hown hK hP (by omega) f_L rfl 0 (by decide) (nT_m wf_X4_12) rfl dX4_coinageOf_5 ?_
    exact n_aretR hQ hx hb hr (Or.inl ⟨_, rfl⟩) hlocks (Or.inr ⟨_, rfl⟩) (by rw [show b + 1 + 4 * sy = (b + 1) by omega]) dX4_coinageOf_8
set_option maxHeartbeats 4000000 in
set_option maxRecDepth 100000 in
theorem c_X4_coinageOf_n {l : Launch} {G : nG} {N : Nat} {ad : Nat → Nat} {w : Nat → va_E} {sz : Nat} (b tn ra rb stp : Nat) (z : Int) (hN : b + 49 < N) (hz : -2147483648 ≤ z ∧ z < 2147483648) (hs : ¬ z = 0 ∧ ¬ z = 1) (f_L : w b = .inr (4, [.ref (ad (b + 1)), .ref (ad (b + 5)), .ref (ad (b + 9)), .ref (ad (b + 12)), .ref (ad (b + 13)), .int (iI ((tn : Nat) : Int)), .int (iI ((ra : Nat) : Int)), .int (iI ((rb : Nat) : Int)), .int (iI ((stp : Nat) : Int))])) : Met l yX4_coinageOf wsX4_coinageOf ({ frames := 0, cells := 0, slots := 0, locals := 0 }) (va_Pc [.ref (ad b), .int (iI z)] (nB G N ad w sz)) (nRd (.null)) 0 0 (fun _ => False) := by
  refine n_ent (cc := cX4_coinageOf) (maxL := 2) (ret := (some (.object "NewCoins$Coinage"))) (by decide) rfl (Nat.le_of_ble_eq_true rfl) ?_
  intro p e s m below meth cd hx hb hr hml hlocks hts hown hnm hsz hP hK hI Q hQ ls hl
  have hown : s.vm.findClass RX4 = some m.cls := hown
  have hl : lv_has ls 2 [(0, .ref (ad b)), (1, .int (iI z))] := hl
  refine lv_iload_n hx hb dX4_coinageOf_0 rfl (lv_at hl 1 rfl) ?_
  refine n_if_ne (tgt := 9) hx hb dX4_coinageOf_1 (by decide) (by omega) (fun hc1 => ?_) (fun hc1 => ?_)
  · skip
    refine lv_iload_n hx hb dX4_coinageOf_9 rfl (lv_at hl 1 rfl) ?_
    refine n_iconst hx hb dX4_coinageOf_10 ?_
    refine n_icmp_ne (tgt := 21) hx hb dX4_coinageOf_11 (by decide) (by omega) (by omega) (fun hc11 => ?_) (fun hc11 => ?_)
    · skip
      refine lv_null hx hb dX4_coinageOf_21 ?_
      exact n_aretR hQ hx hb hr (Or.inl ⟨_, rfl⟩) hlocks (Or.inl rfl) rfl dX4_coinageOf_22
    · skip
      exact absurd hc11 (by omega)
  · skip
    exact absurd hc1 (by omega)
set_option maxHeartbeats 4000000 in
set_option maxRecDepth 100000 in
theorem c_X4_tillAt_y {l : Launch} {G : nG} {N : Nat} {ad : Nat → Nat} {w : Nat → va_E} {sz : Nat} (b tn ra rb stp : Nat) (t : Nat) (hN : b + 49 < N) (htn : tn ≤ 4) (ht : t < tn) (f_L : w b = .inr (4, [.ref (ad (b + 1)), .ref (ad (b + 5)), .ref (ad (b + 9)), .ref (ad (b + 12)), .ref (ad (b + 13)), .int (iI ((tn : Nat) : Int)), .int (iI ((ra : Nat) : Int)), .int (iI ((rb : Nat) : Int)), .int (iI ((stp : Nat) : Int))])) (f_ts : w (b + 12) = aR G 3 4 (fun k => some (ad (b + 14 + 9 * k)))) : Met l yX4_tillAt wsX4_tillAt ({ frames := 1, cells := 0, slots := 0, locals := 22 }) (va_Pc [.ref (ad b), .int (iI ((t : Nat) : Int))] (nB G N ad w sz)) (nRd (.ref (ad (b + 14 + 9 * t)))) 0 0 (fun _ => False) := by
  refine n_ent (cc := cX4_tillAt) (maxL := 2) (ret := (some (.object "NewCoins$Till"))) (by decide) rfl (Nat.le_of_ble_eq_true rfl) ?_
  intro p e s m below meth cd hx hb hr hml hlocks hts hown hnm hsz hP hK hI Q hQ ls hl
  have hown : s.vm.findClass RX4 = some m.cls := hown
  have hl : lv_has ls 2 [(0, .ref (ad b)), (1, .int (iI ((t : Nat) : Int)))] := hl
  refine n_iconst hx hb dX4_tillAt_0 ?_
  refine lv_iload_n hx hb dX4_tillAt_1 rfl (lv_at hl 1 rfl) ?_
  refine lv_aload_n hx hb dX4_tillAt_2 rfl (lv_at hl 0 rfl) ?_
  refine n_get hx hb hts u_X4 hown hK hP (by omega) f_L rfl 5 (by decide) (nT_m wf_X4_38) rfl dX4_tillAt_3 ?_
  refine n_iconst hx hb dX4_tillAt_6 ?_
  refine n_isub hx hb dX4_tillAt_7 ?_
  refine n_rdF (va_runSN (As := [.int (iI 0), .int (iI ((t : Nat) : Int)), .int (iI (((tn : Nat) : Int) - 1))]) (rest := []) ⟨hx, hb, hml, hown, hts⟩ (c_X6_within 0 ((t : Nat) : Int) (((tn : Nat) : Int) - 1) (by omega) (by omega) (by omega)) ⟨va_cnB 3 hts (nT_N wc_X6_within) rfl rfl rfl (hK.2 _ (List.mem_of_getElem? (i := 9) rfl)) (hts _ (nT_m wn_X6)) (by decide +kernel) ⟨Nat.le_of_ble_eq_true rfl, Nat.le_of_ble_eq_true rfl⟩, hts _ (nT_m wt_X6_within), trivial⟩ preEq rfl rfl hl.1 rfl (lv_room (Nat.le_of_ble_eq_true rfl)) dX4_tillAt_8 ⟨Nat.zero_le _, Nat.zero_le _⟩) ?_
  refine n_if_eqB (tgt := 23) hx hb dX4_tillAt_11 (by decide) (fun hc11 => ?_) (fun hc11 => ?_)
  · skip
    exact absurd hc11 (by omega)
  · skip
    refine lv_aload_n hx hb dX4_tillAt_14 rfl (lv_at hl 0 rfl) ?_
    refine n_get hx hb hts u_X4 hown hK hP (by omega) f_L rfl 3 (by decide) (nT_m wf_X4_30) rfl dX4_tillAt_15 ?_
    refine lv_iload_n hx hb dX4_tillAt_18 rfl (lv_at hl 1 rfl) ?_
    refine n_aald hx hb hK hP (.object "NewCoins$Till") t (by omega) f_ts rfl rfl (by omega) (by omega) (by decide) rfl dX4_tillAt_19 ?_
    refine lv_goto (tgt := 24) hx hb dX4_tillAt_20 (by decide) ?_
    exact n_aretR hQ hx hb hr (Or.inl ⟨_, rfl⟩) hlocks (Or.inr ⟨_, rfl⟩) rfl dX4_tillAt_24
set_option maxHeartbeats 4000000 in
set_option maxRecDepth 100000 in
theorem c_X4_tillAt_n {l : Launch} {G : nG} {N : Nat} {ad : Nat → Nat} {w : Nat → va_E} {sz : Nat} (b tn ra rb stp : Nat) (z : Int) (hN : b + 49 < N) (htn : tn ≤ 4) (hz : -2147483648 ≤ z ∧ z < 2147483648) (ht : ¬ (0 ≤ z ∧ z < tn)) (f_L : w b = .inr (4, [.ref (ad (b + 1)), .ref (ad (b + 5)), .ref (ad (b + 9)), .ref (ad (b + 12)), .ref (ad (b + 13)), .int (iI ((tn : Nat) : Int)), .int (iI ((ra : Nat) : Int)), .int (iI ((rb : Nat) : Int)), .int (iI ((stp : Nat) : Int))])) : Met l yX4_tillAt wsX4_tillAt ({ frames := 1, cells := 0, slots := 0, locals := 22 }) (va_Pc [.ref (ad b), .int (iI z)] (nB G N ad w sz)) (nRd (.null)) 0 0 (fun _ => False) := by
  refine n_ent (cc := cX4_tillAt) (maxL := 2) (ret := (some (.object "NewCoins$Till"))) (by decide) rfl (Nat.le_of_ble_eq_true rfl) ?_
  intro p e s m below meth cd hx hb hr hml hlocks hts hown hnm hsz hP hK hI Q hQ ls hl
  have hown : s.vm.findClass RX4 = some m.cls := hown
  have hl : lv_has ls 2 [(0, .ref (ad b)), (1, .int (iI z))] := hl
  refine n_iconst hx hb dX4_tillAt_0 ?_
  refine lv_iload_n hx hb dX4_tillAt_1 rfl (lv_at hl 1 rfl) ?_
  refine lv_aload_n hx hb dX4_tillAt_2 rfl (lv_at hl 0 rfl) ?_
  refine n_get hx hb hts u_X4 hown hK hP (by omega) f_L rfl 5 (by decide) (nT_m wf_X4_38) rfl dX4_tillAt_3 ?_
  refine n_iconst hx hb dX4_tillAt_6 ?_
  refine n_isub hx hb dX4_tillAt_7 ?_
  refine n_rdF (va_runSN (As := [.int (iI 0), .int (iI z), .int (iI (((tn : Nat) : Int) - 1))]) (rest := []) ⟨hx, hb, hml, hown, hts⟩ (c_X6_within 0 z (((tn : Nat) : Int) - 1) (by omega) (by omega) (by omega)) ⟨va_cnB 3 hts (nT_N wc_X6_within) rfl rfl rfl (hK.2 _ (List.mem_of_getElem? (i := 9) rfl)) (hts _ (nT_m wn_X6)) (by decide +kernel) ⟨Nat.le_of_ble_eq_true rfl, Nat.le_of_ble_eq_true rfl⟩, hts _ (nT_m wt_X6_within), trivial⟩ preEq rfl rfl hl.1 rfl (lv_room (Nat.le_of_ble_eq_true rfl)) dX4_tillAt_8 ⟨Nat.zero_le _, Nat.zero_le _⟩) ?_
  refine n_if_eqB (tgt := 23) hx hb dX4_tillAt_11 (by decide) (fun hc11 => ?_) (fun hc11 => ?_)
  · skip
    refine lv_null hx hb dX4_tillAt_23 ?_
    exact n_aretR hQ hx hb hr (Or.inl ⟨_, rfl⟩) hlocks (Or.inl rfl) rfl dX4_tillAt_24
  · skip
    exact absurd hc11 (by omega)
set_option maxHeartbeats 4000000 in
set_option maxRecDepth 100000 in
theorem c_X4_isCoin_y {l : Launch} {G : nG} {N : Nat} {ad : Nat → Nat} {w : Nat → va_E} {sz : Nat} (b tn ra rb stp : Nat) (sy cnt : Nat) (z : Int) (hN : b + 49 < N) (hs : sy < 2) (hc : cnt ≤ 8) (hz : -2147483648 ≤ z ∧ z < 2147483648) (f_L : w b = .inr (4, [.ref (ad (b + 1)), .ref (ad (b + 5)), .ref (ad (b + 9)), .ref (ad (b + 12)), .ref (ad (b + 13)), .int (iI ((tn : Nat) : Int)), .int (iI ((ra : Nat) : Int)), .int (iI ((rb : Nat) : Int)), .int (iI ((stp : Nat) : Int))])) (f_o : w (b + 1 + 4 * sy) = .inr (1, [.int (iI ((cnt : Nat) : Int)), .ref (ad ((b + 1 + 4 * sy) + 1)), .ref (ad ((b + 1 + 4 * sy) + 2)), .ref (ad ((b + 1 + 4 * sy) + 3))])) : Met l yX4_isCoin wsX4_isCoin ({ frames := 2, cells := 0, slots := 0, locals := 43 }) (va_Pc [.ref (ad b), .int (iI ((sy : Nat) : Int)), .int (iI z)] (nB G N ad w sz)) (nRd (.int (iI (bI (0 ≤ z ∧ z < cnt))))) 0 0 (fun _ => False) := by
  refine n_ent (cc := cX4_isCoin) (maxL := 4) (ret := (some .boolean)) (by decide) rfl (Nat.le_of_ble_eq_true rfl) ?_
  intro p e s m below meth cd hx hb hr hml hlocks hts hown hnm hsz hP hK hI Q hQ ls hl
  have hown : s.vm.findClass RX4 = some m.cls := hown
  have hl : lv_has ls 4 [(0, .ref (ad b)), (1, .int (iI ((sy : Nat) : Int))), (2, .int (iI z))] := hl
  refine lv_aload_n hx hb dX4_isCoin_0 rfl (lv_at hl 0 rfl) ?_
  refine lv_iload_n hx hb dX4_isCoin_1 rfl (lv_at hl 1 rfl) ?_
  refine n_rdF (va_runV (As := [.int (iI ((sy : Nat) : Int))]) (rest := []) ⟨hx, hb, hml, hown, hts⟩ (c_X4_coinageOf_y _ _ _ _ _ sy (by omega) (by omega) f_L) (cwV 1 hts (nT_V wl_X4_72 wi_X4_coinageOf ws_X4_coinageOf wn_X4 wc_X4_coinageOf) rfl rfl rfl (by decide +kernel) ⟨Nat.le_of_ble_eq_true rfl, Nat.le_of_ble_eq_true rfl⟩) (nB.preV hK hI hP (by omega) f_L rfl rfl) rfl rfl hl.1 rfl (lv_room (Nat.le_of_ble_eq_true rfl)) dX4_isCoin_2 ⟨Nat.zero_le _, Nat.zero_le _⟩) ?_
  refine lv_astore_n (lv' := [(3, .ref (ad (b + 1 + 4 * sy))), (0, .ref (ad b)), (1, .int (iI ((sy : Nat) : Int))), (2, .int (iI z))]) hx hb dX4_isCoin_5 rfl hl (by decide) rfl (fun ls hl => ?_)
  refine lv_aload_n hx hb dX4_isCoin_6 rfl (lv_at hl 0 rfl) ?_
  refine lv_ifnull hx hb dX4_isCoin_7 ?_
  refine lv_aload_n hx hb dX4_isCoin_10 rfl (lv_at hl 0 rfl) ?_
  refine lv_iload_n hx hb dX4_isCoin_11 rfl (lv_at hl 3 rfl) ?_
  refine n_rdF (va_runV (As := [.int (iI z)]) (rest := []) ⟨hx, hb, hml, hown, hts⟩ (c_X1_isCoin _ _ z (by omega) (by omega) (by omega) f_o) (cwV 1 hts (nT_V wl_X4_76 wi_X1_isCoin ws_X1_isCoin wn_X1 wc_X1_isCoin) rfl rfl rfl (by decide +kernel) ⟨Nat.le_of_ble_eq_true rfl, Nat.le_of_ble_eq_true rfl⟩) (nB.preV hK hI hP (by omega) f_o rfl rfl) rfl rfl hl.1 rfl (lv_room (Nat.le_of_ble_eq_true rfl)) dX4_isCoin_12 ⟨Nat.zero_le _, Nat.zero_le _⟩) ?_
  refine n_if_eqB (tgt := 22) hx hb dX4_isCoin_15 (by decide) (fun hc15 => ?_) (fun hc15 => ?_)
  · skip
    refine n_iconst hx hb dX4_isCoin_22 ?_
    exact n_zretR hQ hx hb hr hlocks (by unfold bI; split <;> omega) dX4_isCoin_23
  · skip
    refine n_iconst hx hb dX4_isCoin_18 ?_
    refine lv_goto (tgt := 23) hx hb dX4_isCoin_19 (by decide) ?_
    exact n_zretR hQ hx hb hr hlocks (by unfold bI; split <;> omega) dX4_isCoin_23
set_option maxHeartbeats 4000000 in
set_option maxRecDepth 100000 in
theorem c_X4_isCoin_n {l : Launch} {G : nG} {N : Nat} {ad : Nat → Nat} {w : Nat → va_E} {sz : Nat} (b tn ra rb stp : Nat) (y z : Int) (hN : b + 49 < N) (hy : -2147483648 ≤ y ∧ y < 2147483648) (hs : ¬ y = 0 ∧ ¬ y = 1) (f_L : w b = .inr (4, [.ref (ad (b + 1)), .ref (ad (b + 5)), .ref (ad (b + 9)), .ref (ad (b + 12)), .ref (ad (b + 13)), .int (iI ((tn : Nat) : Int)), .int (iI ((ra : Nat) : Int)), .int (iI ((rb : Nat) : Int)), .int (iI ((stp : Nat) : Int))])) : Met l yX4_isCoin wsX4_isCoin ({ frames := 2, cells := 0, slots := 0, locals := 43 }) (va_Pc [.ref (ad b), .int (iI y), .int (iI z)] (nB G N ad w sz)) (nRd (.int (iI (bI False)))) 0 0 (fun _ => False) := by
  refine n_ent (cc := cX4_isCoin) (maxL := 4) (ret := (some .boolean)) (by decide) rfl (Nat.le_of_ble_eq_true rfl) ?_
  intro p e s m below meth cd hx hb hr hml hlocks hts hown hnm hsz hP hK hI Q hQ ls hl
  have hown : s.vm.findClass RX4 = some m.cls := hown
  have hl : lv_has ls 4 [(0, .ref (ad b)), (1, .int (iI y)), (2, .int (iI z))] := hl
  refine lv_aload_n hx hb dX4_isCoin_0 rfl (lv_at hl 0 rfl) ?_
  refine lv_iload_n hx hb dX4_isCoin_1 rfl (lv_at hl 1 rfl) ?_
  refine n_rdF (va_runV (As := [.int (iI y)]) (rest := []) ⟨hx, hb, hml, hown, hts⟩ (c_X4_coinageOf_n _ _ _ _ _ y (by omega) (by omega) (by omega) f_L) (cwV 1 hts (nT_V wl_X4_72 wi_X4_coinageOf ws_X4_coinageOf wn_X4 wc_X4_coinageOf) rfl rfl rfl (by decide +kernel) ⟨Nat.le_of_ble_eq_true rfl, Nat.le_of_ble_eq_true rfl⟩) (nB.preV hK hI hP (by omega) f_L rfl rfl) rfl rfl hl.1 rfl (lv_room (Nat.le_of_ble_eq_true rfl)) dX4_isCoin_2 ⟨Nat.zero_le _, Nat.zero_le _⟩) ?_
  refine lv_astore_nN (lv' := [(3, .null), (0, .ref (ad b)), (1, .int (iI y)), (2, .int (iI z))]) hx hb dX4_isCoin_5 rfl hl (by decide) rfl (fun ls hl => ?_)
  refine lv_aload_nN hx hb dX4_isCoin_6 rfl (lv_at hl 0 rfl) ?_
  refine lv_ifnullN (tgt := 22) hx hb dX4_isCoin_7 (by decide) ?_
  refine n_iconst hx hb dX4_isCoin_22 ?_
  exact n_zretR hQ hx hb hr hlocks rfl dX4_isCoin_23
set_option maxHeartbeats 4000000 in
set_option maxRecDepth 100000 in
theorem c_X4_isSale_y {l : Launch} {G : nG} {N : Nat} {ad : Nat → Nat} {w : Nat → va_E} {sz : Nat} (b tn ra rb stp : Nat) (sy cnt : Nat) (pz z nz : Int) (hN : b + 49 < N) (hs : sy < 2) (hc : cnt ≤ 8) (hpz : -2147483648 ≤ pz ∧ pz < 2147483648) (hz : -2147483648 ≤ z ∧ z < 2147483648) (hnz : -2147483648 ≤ nz ∧ nz < 2147483648) (f_L : w b = .inr (4, [.ref (ad (b + 1)), .ref (ad (b + 5)), .ref (ad (b + 9)), .ref (ad (b + 12)), .ref (ad (b + 13)), .int (iI ((tn : Nat) : Int)), .int (iI ((ra : Nat) : Int)), .int (iI ((rb : Nat) : Int)), .int (iI ((stp : Nat) : Int))])) (f_o : w (b + 1 + 4 * sy) = .inr (1, [.int (iI ((cnt : Nat) : Int)), .ref (ad ((b + 1 + 4 * sy) + 1)), .ref (ad ((b + 1 + 4 * sy) + 2)), .ref (ad ((b + 1 + 4 * sy) + 3))])) : Met l yX4_isSale wsX4_isSale ({ frames := 3, cells := 0, slots := 0, locals := 66 }) (va_Pc [.ref (ad b), .int (iI pz), .int (iI ((sy : Nat) : Int)), .int (iI z), .int (iI nz)] (nB G N ad w sz)) (nRd (.int (iI (bI ((1 ≤ pz ∧ pz ≤ 2000) ∧ (1 ≤ nz ∧ nz ≤ 50) ∧ 0 ≤ z ∧ z < (cnt : Int)))))) 0 0 (fun _ => False) := by
  refine n_ent (cc := cX4_isSale) (maxL := 5) (ret := (some .boolean)) (by decide) rfl (Nat.le_of_ble_eq_true rfl) ?_
  intro p e s m below meth cd hx hb hr hml hlocks hts hown hnm hsz hP hK hI Q hQ ls hl
  have hown : s.vm.findClass RX4 = some m.cls := hown
  have hl : lv_has ls 5 [(0, .ref (ad b)), (1, .int (iI pz)), (2, .int (iI ((sy : Nat) : Int))), (3, .int (iI z)), (4, .int (iI nz))] := hl
  refine n_iconst hx hb dX4_isSale_0 ?_
  refine lv_iload_n hx hb dX4_isSale_1 rfl (lv_at hl 1 rfl) ?_
  refine n_sipush hx hb dX4_isSale_2 (by decide) ?_
  refine n_rdF (va_runSN (As := [.int (iI 1), .int (iI pz), .int (iI 2000)]) (rest := []) ⟨hx, hb, hml, hown, hts⟩ (c_X6_within 1 pz 2000 (by omega) (by omega) (by omega)) ⟨va_cnB 3 hts (nT_N wc_X6_within) rfl rfl rfl (hK.2 _ (List.mem_of_getElem? (i := 9) rfl)) (hts _ (nT_m wn_X6)) (by decide +kernel) ⟨Nat.le_of_ble_eq_true rfl, Nat.le_of_ble_eq_true rfl⟩, hts _ (nT_m wt_X6_within), trivial⟩ preEq rfl rfl hl.1 rfl (lv_room (Nat.le_of_ble_eq_true rfl)) dX4_isSale_5 ⟨Nat.zero_le _, Nat.zero_le _⟩) ?_
  refine n_if_eqB (tgt := 35) hx hb dX4_isSale_8 (by decide) (fun hc8 => ?_) (fun hc8 => ?_)
  · skip
    refine n_iconst hx hb dX4_isSale_35 ?_
    exact n_zretR hQ hx hb hr hlocks (by unfold bI; split <;> omega) dX4_isSale_36
  · skip
    refine n_iconst hx hb dX4_isSale_11 ?_
    refine lv_iload hx hb dX4_isSale_12 (lv_at hl 4 rfl) ?_
    refine n_bipush hx hb dX4_isSale_14 (by decide) ?_
    refine n_rdF (va_runSN (As := [.int (iI 1), .int (iI nz), .int (iI 50)]) (rest := []) ⟨hx, hb, hml, hown, hts⟩ (c_X6_within 1 nz 50 (by omega) (by omega) (by omega)) ⟨va_cnB 3 hts (nT_N wc_X6_within) rfl rfl rfl (hK.2 _ (List.mem_of_getElem? (i := 9) rfl)) (hts _ (nT_m wn_X6)) (by decide +kernel) ⟨Nat.le_of_ble_eq_true rfl, Nat.le_of_ble_eq_true rfl⟩, hts _ (nT_m wt_X6_within), trivial⟩ preEq rfl rfl hl.1 rfl (lv_room (Nat.le_of_ble_eq_true rfl)) dX4_isSale_16 ⟨Nat.zero_le _, Nat.zero_le _⟩) ?_
    refine n_if_eqB (tgt := 35) hx hb dX4_isSale_19 (by decide) (fun hc19 => ?_) (fun hc19 => ?_)
    · skip
      refine n_iconst hx hb dX4_isSale_35 ?_
      exact n_zretR hQ hx hb hr hlocks (by unfold bI; split <;> omega) dX4_isSale_36
    · skip
      refine lv_aload_n hx hb dX4_isSale_22 rfl (lv_at hl 0 rfl) ?_
      refine lv_iload_n hx hb dX4_isSale_23 rfl (lv_at hl 2 rfl) ?_
      refine lv_iload_n hx hb dX4_isSale_24 rfl (lv_at hl 3 rfl) ?_
      refine n_rdF (va_runV (As := [.int (iI ((sy : Nat) : Int)), .int (iI z)]) (rest := []) ⟨hx, hb, hml, hown, hts⟩ (c_X4_isCoin_y _ _ _ _ _ sy _ z (by omega) (by omega) (by omega) (by omega) f_L f_o) (cwV 2 hts (nT_V wl_X4_80 wi_X4_isCoin ws_X4_isCoin wn_X4 wc_X4_isCoin) rfl rfl rfl (by decide +kernel) ⟨Nat.le_of_ble_eq_true rfl, Nat.le_of_ble_eq_true rfl⟩) (nB.preV hK hI hP (by omega) f_L rfl rfl) rfl rfl hl.1 rfl (lv_room (Nat.le_of_ble_eq_true rfl)) dX4_isSale_25 ⟨Nat.zero_le _, Nat.zero_le _⟩) ?_
      refine n_if_eqB (tgt := 35) hx hb dX4_isSale_28 (by decide) (fun hc28 => ?_) (fun hc28 => ?_)
      · skip
        refine n_iconst hx hb dX4_isSale_35 ?_
        exact n_zretR hQ hx hb hr hlocks (by unfold bI; split <;> omega) dX4_isSale_36
      · skip
        refine n_iconst hx hb dX4_isSale_31 ?_
        refine lv_goto (tgt := 36) hx hb dX4_isSale_32 (by decide) ?_
        exact n_zretR hQ hx hb hr hlocks (by unfold bI; split <;> omega) dX4_isSale_36
set_option maxHeartbeats 4000000 in
set_option maxRecDepth 100000 in
theorem c_X4_isSale_n {l : Launch} {G : nG} {N : Nat} {ad : Nat → Nat} {w : Nat → va_E} {sz : Nat} (b tn ra rb stp : Nat) (pz y z nz : Int) (hN : b + 49 < N) (hy : -2147483648 ≤ y ∧ y < 2147483648) (hs : ¬ y = 0 ∧ ¬ y = 1) (hpz : -2147483648 ≤ pz ∧ pz < 2147483648) (hz : -2147483648 ≤ z ∧ z < 2147483648) (hnz : -2147483648 ≤ nz ∧ nz < 2147483648) (f_L : w b = .inr (4, [.ref (ad (b + 1)), .ref (ad (b + 5)), .ref (ad (b + 9)), .ref (ad (b + 12)), .ref (ad (b + 13)), .int (iI ((tn : Nat) : Int)), .int (iI ((ra : Nat) : Int)), .int (iI ((rb : Nat) : Int)), .int (iI ((stp : Nat) : Int))])) : Met l yX4_isSale wsX4_isSale ({ frames := 3, cells := 0, slots := 0, locals := 66 }) (va_Pc [.ref (ad b), .int (iI pz), .int (iI y), .int (iI z), .int (iI nz)] (nB G N ad w sz)) (nRd (.int (iI (bI False)))) 0 0 (fun _ => False) := by
  refine n_ent (cc := cX4_isSale) (maxL := 5) (ret := (some .boolean)) (by decide) rfl (Nat.le_of_ble_eq_true rfl) ?_
  intro p e s m below meth cd hx hb hr hml hlocks hts hown hnm hsz hP hK hI Q hQ ls hl
  have hown : s.vm.findClass RX4 = some m.cls := hown
  have hl : lv_has ls 5 [(0, .ref (ad b)), (1, .int (iI pz)), (2, .int (iI y)), (3, .int (iI z)), (4, .int (iI nz))] := hl
  refine n_iconst hx hb dX4_isSale_0 ?_
  refine lv_iload_n hx hb dX4_isSale_1 rfl (lv_at hl 1 rfl) ?_
  refine n_sipush hx hb dX4_isSale_2 (by decide) ?_
  refine n_rdF (va_runSN (As := [.int (iI 1), .int (iI pz), .int (iI 2000)]) (rest := []) ⟨hx, hb, hml, hown, hts⟩ (c_X6_within 1 pz 2000 (by omega) (by omega) (by omega)) ⟨va_cnB 3 hts (nT_N wc_X6_within) rfl rfl rfl (hK.2 _ (List.mem_of_getElem? (i := 9) rfl)) (hts _ (nT_m wn_X6)) (by decide +kernel) ⟨Nat.le_of_ble_eq_true rfl, Nat.le_of_ble_eq_true rfl⟩, hts _ (nT_m wt_X6_within), trivial⟩ preEq rfl rfl hl.1 rfl (lv_room (Nat.le_of_ble_eq_true rfl)) dX4_isSale_5 ⟨Nat.zero_le _, Nat.zero_le _⟩) ?_
  refine n_if_eqB (tgt := 35) hx hb dX4_isSale_8 (by decide) (fun hc8 => ?_) (fun hc8 => ?_)
  · skip
    refine n_iconst hx hb dX4_isSale_35 ?_
    exact n_zretR hQ hx hb hr hlocks rfl dX4_isSale_36
  · skip
    refine n_iconst hx hb dX4_isSale_11 ?_
    refine lv_iload hx hb dX4_isSale_12 (lv_at hl 4 rfl) ?_
    refine n_bipush hx hb dX4_isSale_14 (by decide) ?_
    refine n_rdF (va_runSN (As := [.int (iI 1), .int (iI nz), .int (iI 50)]) (rest := []) ⟨hx, hb, hml, hown, hts⟩ (c_X6_within 1 nz 50 (by omega) (by omega) (by omega)) ⟨va_cnB 3 hts (nT_N wc_X6_within) rfl rfl rfl (hK.2 _ (List.mem_of_getElem? (i := 9) rfl)) (hts _ (nT_m wn_X6)) (by decide +kernel) ⟨Nat.le_of_ble_eq_true rfl, Nat.le_of_ble_eq_true rfl⟩, hts _ (nT_m wt_X6_within), trivial⟩ preEq rfl rfl hl.1 rfl (lv_room (Nat.le_of_ble_eq_true rfl)) dX4_isSale_16 ⟨Nat.zero_le _, Nat.zero_le _⟩) ?_
    refine n_if_eqB (tgt := 35) hx hb dX4_isSale_19 (by decide) (fun hc19 => ?_) (fun hc19 => ?_)
    · skip
      refine n_iconst hx hb dX4_isSale_35 ?_
      exact n_zretR hQ hx hb hr hlocks rfl dX4_isSale_36
    · skip
      refine lv_aload_n hx hb dX4_isSale_22 rfl (lv_at hl 0 rfl) ?_
      refine lv_iload_n hx hb dX4_isSale_23 rfl (lv_at hl 2 rfl) ?_
      refine lv_iload_n hx hb dX4_isSale_24 rfl (lv_at hl 3 rfl) ?_
      refine n_rdF (va_runV (As := [.int (iI y), .int (iI z)]) (rest := []) ⟨hx, hb, hml, hown, hts⟩ (c_X4_isCoin_n _ _ _ _ _ y z (by omega) (by omega) (by omega) f_L) (cwV 2 hts (nT_V wl_X4_80 wi_X4_isCoin ws_X4_isCoin wn_X4 wc_X4_isCoin) rfl rfl rfl (by decide +kernel) ⟨Nat.le_of_ble_eq_true rfl, Nat.le_of_ble_eq_true rfl⟩) (nB.preV hK hI hP (by omega) f_L rfl rfl) rfl rfl hl.1 rfl (lv_room (Nat.le_of_ble_eq_true rfl)) dX4_isSale_25 ⟨Nat.zero_le _, Nat.zero_le _⟩) ?_
      refine n_if_eqB (tgt := 35) hx hb dX4_isSale_28 (by decide) (fun hc28 => ?_) (fun hc28 => ?_)
      · skip
        refine n_iconst hx hb dX4_isSale_35 ?_
        exact n_zretR hQ hx hb hr hlocks rfl dX4_isSale_36
      · skip
        exact hc28.elim
set_option maxHeartbeats 4000000 in
set_option maxRecDepth 100000 in
theorem c_X4_hasSold {l : Launch} {G : nG} {N : Nat} {ad : Nat → Nat} {w : Nat → va_E} {sz : Nat} (b tn ra rb stp : Nat) (sa sc tk : Nat → Nat) (hN : b + 49 < N) (htn : tn ≤ 4) (hT : ∀ t, t < 4 → w (b + 14 + 9 * t) = .inr (5, [.ref (ad (b + 14 + 9 * t + 1)), .ref (ad (b + 14 + 9 * t + 2)), .ref (ad (b + 14 + 9 * t + 3)), .ref (ad (b + 14 + 9 * t + 4)), .int (iI ((sa t : Nat) : Int)), .long (jI ((sc t : Nat) : Int)), .long (jI ((tk t : Nat) : Int))])) (hsa : ∀ k, sa k < 2147483648) (f_L : w b = .inr (4, [.ref (ad (b + 1)), .ref (ad (b + 5)), .ref (ad (b + 9)), .ref (ad (b + 12)), .ref (ad (b + 13)), .int (iI ((tn : Nat) : Int)), .int (iI ((ra : Nat) : Int)), .int (iI ((rb : Nat) : Int)), .int (iI ((stp : Nat) : Int))])) (f_ts : w (b + 12) = aR G 3 4 (fun k => some (ad (b + 14 + 9 * k)))) : Met l yX4_hasSold wsX4_hasSold ({ frames := 0, cells := 0, slots := 0, locals := 0 }) (va_Pc [.ref (ad b)] (nB G N ad w sz)) (nRd (.int (iI (bI (anyS sa tn = true))))) 0 0 (fun _ => False) := by
  refine n_ent (cc := cX4_hasSold) (maxL := 2) (ret := (some .boolean)) (by decide) rfl (Nat.le_of_ble_eq_true rfl) ?_
  intro p e s m below meth cd hx hb hr hml hlocks hts hown hnm hsz hP hK hI Q hQ ls hl
  have hown : s.vm.findClass RX4 = some m.cls := hown
  have hl : lv_has ls 2 [(0, .ref (ad b))] := hl
  refine n_iconst hx hb dX4_hasSold_0 ?_
  refine lv_istore_n (lv' := [(1, .int (iI 0)), (0, .ref (ad b))]) hx hb dX4_hasSold_1 rfl hl (by decide) rfl (fun ls hl => ?_)
  have lp1 : ∀ (fu : Nat), ∀ (q : Nat), ∀ (ls : Array Slot), tn - q < fu → q ≤ tn → anyS sa q = false → lv_has ls 2 [(0, .ref (ad b)), (1, .int (iI ((q : Nat) : Int)))] → W p l e ({ frames := 0, cells := 0, slots := 0, locals := 0 } : Room) s m ([.ref (ad b)] : List Value).toArray below meth cd s.heap [] 0 0 Q (F0 m 2 ls []) := by
    intro fu
    induction fu with
    | zero =>
      intro q ls hfu hq hv hl
      exact absurd hfu (Nat.not_lt_zero _)
    | succ fu ih2 =>
      intro q ls hfu hq hv hl
      refine lv_iload_n hx hb dX4_hasSold_2 rfl (lv_at hl 1 rfl) ?_
      refine lv_aload_n hx hb dX4_hasSold_3 rfl (lv_at hl 0 rfl) ?_
      refine n_get hx hb hts u_X4 hown hK hP (by omega) f_L rfl 5 (by decide) (nT_m wf_X4_38) rfl dX4_hasSold_4 ?_
      refine n_icmp_ge (tgt := 30) hx hb dX4_hasSold_7 (by decide) (by omega) (by omega) (fun hc7 => ?_) (fun hc7 => ?_)
      · skip
        refine n_iconst hx hb dX4_hasSold_30 ?_
        exact n_zretR hQ hx hb hr hlocks (bI_f (fun h => by rw [show tn = q by omega, hv] at h; cases h)).symm dX4_hasSold_31
      · skip
        refine lv_aload_n hx hb dX4_hasSold_10 rfl (lv_at hl 0 rfl) ?_
        refine n_get hx hb hts u_X4 hown hK hP (by omega) f_L rfl 3 (by decide) (nT_m wf_X4_30) rfl dX4_hasSold_11 ?_
        refine lv_iload_n hx hb dX4_hasSold_14 rfl (lv_at hl 1 rfl) ?_
        refine n_aald hx hb hK hP (.object "NewCoins$Till") q (by omega) f_ts rfl rfl (by omega) (by omega) (by decide) rfl dX4_hasSold_15 ?_
        have hsq := hsa q
        have f_t := hT q (by omega)
        refine n_get hx hb hts u_X5 hown hK hP (by omega) f_t rfl 4 (by decide) (nT_m wf_X4_83) rfl dX4_hasSold_16 ?_
        refine n_if_le (tgt := 24) hx hb dX4_hasSold_19 (by decide) (by omega) (fun hc19 => ?_) (fun hc19 => ?_)
        · skip
          refine lv_iinc (v := iI (((q : Nat) : Int) + 1)) (lv' := [(1, .int (iI (((q : Nat) : Int) + 1))), (0, .ref (ad b))]) hx hb dX4_hasSold_24 hl (k := 1) rfl (by first | exact iI_add _ _ | exact (iI_add _ _).trans (congrArg iI (by omega))) (by decide) rfl (fun ls hl => ?_)
          refine lv_goto (tgt := 2) hx hb dX4_hasSold_27 (by decide) ?_
          exact ih2 (q + 1) _ (by omega) (by omega) (anyS_f hv (by omega)) (by first | exact lv_sub hl [1, 0] rfl | exact lv_cast (lv_sub (l' := [(0, .ref (ad b)), (1, .int (iI (((q : Nat) : Int) + 1)))]) hl [1, 0] rfl) (lc_s (lc_i (show ((((q : Nat) : Int) + 1) : Int) = (((q + 1) : Nat) : Int) by omega) rfl)))
        · skip
          refine n_iconst hx hb dX4_hasSold_22 ?_
          exact n_zretR hQ hx hb hr hlocks (bI_t (anyS_le (anyS_t (n := q) (by omega)) (by omega))).symm dX4_hasSold_23
  exact lp1 (tn - 0 + 1) 0 _ (Nat.lt_succ_self _) (by omega) rfl (by first | exact lv_sub hl [1, 0] rfl | exact lv_cast (lv_sub (l' := [(0, .ref (ad b)), (1, .int (iI 0))]) hl [1, 0] rfl) (lc_s (lc_i (show (0 : Int) = ((0 : Nat) : Int) by omega) rfl)))
set_option maxHeartbeats 4000000 in
set_option maxRecDepth 100000 in
theorem c_X4_unitParts {l : Launch} {G : nG} {N : Nat} {ad : Nat → Nat} {w : Nat → va_E} {sz : Nat} (b tn ra rb stp : Nat) (sy : Nat) (hN : b + 49 < N) (hs : sy < 2) (f_L : w b = .inr (4, [.ref (ad (b + 1)), .ref (ad (b + 5)), .ref (ad (b + 9)), .ref (ad (b + 12)), .ref (ad (b + 13)), .int (iI ((tn : Nat) : Int)), .int (iI ((ra : Nat) : Int)), .int (iI ((rb : Nat) : Int)), .int (iI ((stp : Nat) : Int))])) : Met l yX4_unitParts wsX4_unitParts ({ frames := 0, cells := 0, slots := 0, locals := 0 }) (va_Pc [.ref (ad b), .int (iI ((sy : Nat) : Int))] (nB G N ad w sz)) (nRd (.int (iI ((if sy = 0 then ra else rb : Nat) : Int)))) 0 0 (fun _ => False) := by
  refine n_ent (cc := cX4_unitParts) (maxL := 2) (ret := (some .int)) (by decide) rfl (Nat.le_of_ble_eq_true rfl) ?_
  intro p e s m below meth cd hx hb hr hml hlocks hts hown hnm hsz hP hK hI Q hQ ls hl
  have hown : s.vm.findClass RX4 = some m.cls := hown
  have hl : lv_has ls 2 [(0, .ref (ad b)), (1, .int (iI ((sy : Nat) : Int)))] := hl
  refine lv_iload_n hx hb dX4_unitParts_0 rfl (lv_at hl 1 rfl) ?_
  refine n_if_ne (tgt := 11) hx hb dX4_unitParts_1 (by decide) (by omega) (fun hc1 => ?_) (fun hc1 => ?_)
  · skip
    refine lv_aload_n hx hb dX4_unitParts_11 rfl (lv_at hl 0 rfl) ?_
    refine n_get hx hb hts u_X4 hown hK hP (by omega) f_L rfl 7 (by decide) (nT_m wf_X4_45) rfl dX4_unitParts_12 ?_
    exact n_iretR hQ hx hb hr hlocks (by rw [if_neg (by omega)]) dX4_unitParts_15
  · skip
    refine lv_aload_n hx hb dX4_unitParts_4 rfl (lv_at hl 0 rfl) ?_
    refine n_get hx hb hts u_X4 hown hK hP (by omega) f_L rfl 6 (by decide) (nT_m wf_X4_42) rfl dX4_unitParts_5 ?_
    refine lv_goto (tgt := 15) hx hb dX4_unitParts_8 (by decide) ?_
    exact n_iretR hQ hx hb hr hlocks (by rw [if_pos (by omega)]) dX4_unitParts_15
set_option maxHeartbeats 4000000 in
set_option maxRecDepth 100000 in
theorem c_X4_spareParts {l : Launch} {G : nG} {N : Nat} {ad : Nat → Nat} {w : Nat → va_E} {sz : Nat} (b tn ra rb stp : Nat) (sy cnt : Nat) (val : Nat → Nat) (pr k nn : Nat) (hN : b + 49 < N) (hs : sy < 2) (hc : cnt ≤ 8) (hval : ∀ k, val k ≤ 1000) (hk : k < cnt) (f_L : w b = .inr (4, [.ref (ad (b + 1)), .ref (ad (b + 5)), .ref (ad (b + 9)), .ref (ad (b + 12)), .ref (ad (b + 13)), .int (iI ((tn : Nat) : Int)), .int (iI ((ra : Nat) : Int)), .int (iI ((rb : Nat) : Int)), .int (iI ((stp : Nat) : Int))])) (f_o : w (b + 1 + 4 * sy) = .inr (1, [.int (iI ((cnt : Nat) : Int)), .ref (ad ((b + 1 + 4 * sy) + 1)), .ref (ad ((b + 1 + 4 * sy) + 2)), .ref (ad ((b + 1 + 4 * sy) + 3))])) (f_v : w ((b + 1 + 4 * sy) + 1) = aI G 8 (fun q => (val q : Int))) : Met l yX4_spareParts wsX4_spareParts ({ frames := 2, cells := 0, slots := 0, locals := 43 }) (va_Pc [.ref (ad b), .int (iI ((pr : Nat) : Int)), .int (iI ((sy : Nat) : Int)), .int (iI ((k : Nat) : Int)), .int (iI ((nn : Nat) : Int))] (nB G N ad w sz)) (nRd (.int (iI (((nn : Nat) : Int) * (val k : Int) * ((if sy = 0 then ra else rb : Nat) : Int) - ((pr : Nat) : Int) * ((rb : Nat) : Int))))) 0 0 (fun _ => False) := by
  refine n_ent (cc := cX4_spareParts) (maxL := 6) (ret := (some .int)) (by decide) rfl (Nat.le_of_ble_eq_true rfl) ?_
  intro p e s m below meth cd hx hb hr hml hlocks hts hown hnm hsz hP hK hI Q hQ ls hl
  have hown : s.vm.findClass RX4 = some m.cls := hown
  have hl : lv_has ls 6 [(0, .ref (ad b)), (1, .int (iI ((pr : Nat) : Int))), (2, .int (iI ((sy : Nat) : Int))), (3, .int (iI ((k : Nat) : Int))), (4, .int (iI ((nn : Nat) : Int)))] := hl
  refine lv_aload_n hx hb dX4_spareParts_0 rfl (lv_at hl 0 rfl) ?_
  refine lv_iload_n hx hb dX4_spareParts_1 rfl (lv_at hl 2 rfl) ?_
  refine n_rdF (va_runV (As := [.int (iI ((sy : Nat) : Int))]) (rest := []) ⟨hx, hb, hml, hown, hts⟩ (c_X4_coinageOf_y _ _ _ _ _ sy (by omega) (by omega) f_L) (cwV 1 hts (nT_V wl_X4_72 wi_X4_coinageOf ws_X4_coinageOf wn_X4 wc_X4_coinageOf) rfl rfl rfl (by decide +kernel) ⟨Nat.le_of_ble_eq_true rfl, Nat.le_of_ble_eq_true rfl⟩) (nB.preV hK hI hP (by omega) f_L rfl rfl) rfl rfl hl.1 rfl (lv_room (Nat.le_of_ble_eq_true rfl)) dX4_spareParts_2 ⟨Nat.zero_le _, Nat.zero_le _⟩) ?_
  refine lv_astore (lv' := [(5, .ref (ad (b + 1 + 4 * sy))), (0, .ref (ad b)), (1, .int (iI ((pr : Nat) : Int))), (2, .int (iI ((sy : Nat) : Int))), (3, .int (iI ((k : Nat) : Int))), (4, .int (iI ((nn : Nat) : Int)))]) hx hb dX4_spareParts_5 hl (by decide) rfl (fun ls hl => ?_)
  refine lv_aload hx hb dX4_spareParts_7 (lv_at hl 0 rfl) ?_
  refine lv_ifnull hx hb dX4_spareParts_9 ?_
  refine lv_aload hx hb dX4_spareParts_12 (lv_at hl 0 rfl) ?_
  refine lv_iload_n hx hb dX4_spareParts_14 rfl (lv_at hl 4 rfl) ?_
  refine n_rdF (va_runV (As := [.int (iI ((k : Nat) : Int))]) (rest := []) ⟨hx, hb, hml, hown, hts⟩ (c_X1_isCoin _ _ ((k : Nat) : Int) (by omega) (by omega) (by omega) f_o) (cwV 1 hts (nT_V wl_X4_76 wi_X1_isCoin ws_X1_isCoin wn_X1 wc_X1_isCoin) rfl rfl rfl (by decide +kernel) ⟨Nat.le_of_ble_eq_true rfl, Nat.le_of_ble_eq_true rfl⟩) (nB.preV hK hI hP (by omega) f_o rfl rfl) rfl rfl hl.1 rfl (lv_room (Nat.le_of_ble_eq_true rfl)) dX4_spareParts_15 ⟨Nat.zero_le _, Nat.zero_le _⟩) ?_
  refine n_if_neB (tgt := 23) hx hb dX4_spareParts_18 (by decide) (fun hc18 => ?_) (fun hc18 => ?_)
  · skip
    refine lv_iload hx hb dX4_spareParts_23 (lv_at hl 5 rfl) ?_
    refine lv_aload hx hb dX4_spareParts_25 (lv_at hl 0 rfl) ?_
    refine n_get hx hb hts u_X1 hown hK hP (by omega) f_o rfl 1 (by decide) (nT_m wf_X4_86) rfl dX4_spareParts_27 ?_
    refine lv_iload_n hx hb dX4_spareParts_30 rfl (lv_at hl 4 rfl) ?_
    refine n_iald hx hb hK hP k (by omega) f_v (by omega) (by omega) (by decide) dX4_spareParts_31 ?_
    have ho1 := hval k
    refine n_imul hx hb dX4_spareParts_32 ?_
    refine lv_aload_n hx hb dX4_spareParts_33 rfl (lv_at hl 1 rfl) ?_
    refine lv_iload_n hx hb dX4_spareParts_34 rfl (lv_at hl 3 rfl) ?_
    refine n_rdF (va_runV (As := [.int (iI ((sy : Nat) : Int))]) (rest := [.int (iI (((nn : Nat) : Int) * (val k : Int)))]) ⟨hx, hb, hml, hown, hts⟩ (c_X4_unitParts _ _ _ _ _ sy (by omega) (by omega) f_L) (cwV 1 hts (nT_V wl_X4_89 wi_X4_unitParts ws_X4_unitParts wn_X4 wc_X4_unitParts) rfl rfl rfl (by decide +kernel) ⟨Nat.le_of_ble_eq_true rfl, Nat.le_of_ble_eq_true rfl⟩) (nB.preV hK hI hP (by omega) f_L rfl rfl) rfl rfl hl.1 rfl (lv_room (Nat.le_of_ble_eq_true rfl)) dX4_spareParts_35 ⟨Nat.zero_le _, Nat.zero_le _⟩) ?_
    refine n_imul hx hb dX4_spareParts_38 ?_
    refine lv_iload_n hx hb dX4_spareParts_39 rfl (lv_at hl 2 rfl) ?_
    refine lv_aload_n hx hb dX4_spareParts_40 rfl (lv_at hl 1 rfl) ?_
    refine n_get hx hb hts u_X4 hown hK hP (by omega) f_L rfl 7 (by decide) (nT_m wf_X4_45) rfl dX4_spareParts_41 ?_
    refine n_imul hx hb dX4_spareParts_44 ?_
    refine n_isub hx hb dX4_spareParts_45 ?_
    exact n_iretR hQ hx hb hr hlocks rfl dX4_spareParts_46
  · skip
    exact absurd hc18 (by omega)
set_option maxHeartbeats 4000000 in
set_option maxRecDepth 100000 in
theorem c_X4_partsOf {l : Launch} {G : nG} {N : Nat} {ad : Nat → Nat} {w : Nat → va_E} {sz : Nat} (b tn ra rb stp : Nat) (sy cnt rw : Nat) (val ct : Nat → Nat) (hN : b + 49 < N) (htn : tn ≤ 4) (hra : 1 ≤ ra ∧ ra ≤ 100) (hrb : 1 ≤ rb ∧ rb ≤ 100) (hst : 1 ≤ stp ∧ stp ≤ 100) (hs : sy < 2) (hc : cnt ≤ 8) (hval : ∀ k, val k ≤ 1000) (hct : ∀ k, ct k ≤ 1000) (hrw : rw < N) (f_L : w b = .inr (4, [.ref (ad (b + 1)), .ref (ad (b + 5)), .ref (ad (b + 9)), .ref (ad (b + 12)), .ref (ad (b + 13)), .int (iI ((tn : Nat) : Int)), .int (iI ((ra : Nat) : Int)), .int (iI ((rb : Nat) : Int)), .int (iI ((stp : Nat) : Int))])) (f_o : w (b + 1 + 4 * sy) = .inr (1, [.int (iI ((cnt : Nat) : Int)), .ref (ad ((b + 1 + 4 * sy) + 1)), .ref (ad ((b + 1 + 4 * sy) + 2)), .ref (ad ((b + 1 + 4 * sy) + 3))])) (f_v : w ((b + 1 + 4 * sy) + 1) = aI G 8 (fun q => (val q : Int))) (f_c : w rw = aI G 8 (fun q => (ct q : Int))) : Met l yX4_partsOf wsX4_partsOf ({ frames := 1, cells := 0, slots := 0, locals := 21 }) (va_Pc [.ref (ad b), .int (iI ((sy : Nat) : Int)), .ref (ad rw)] (nB G N ad w sz)) (nRd (.long (jI (((sumP ct val cnt : Nat) : Int) * ((if sy = 0 then ra else rb : Nat) : Int))))) 0 0 (fun _ => False) := by
  refine n_ent (cc := cX4_partsOf) (maxL := 7) (ret := (some .long)) (by decide) rfl (Nat.le_of_ble_eq_true rfl) ?_
  intro p e s m below meth cd hx hb hr hml hlocks hts hown hnm hsz hP hK hI Q hQ ls hl
  have hown : s.vm.findClass RX4 = some m.cls := hown
  have hl : lv_has ls 7 [(0, .ref (ad b)), (1, .int (iI ((sy : Nat) : Int))), (2, .ref (ad rw))] := hl
  refine lv_aload_n hx hb dX4_partsOf_0 rfl (lv_at hl 0 rfl) ?_
  refine lv_iload_n hx hb dX4_partsOf_1 rfl (lv_at hl 1 rfl) ?_
  refine n_rdF (va_runV (As := [.int (iI ((sy : Nat) : Int))]) (rest := []) ⟨hx, hb, hml, hown, hts⟩ (c_X4_coinageOf_y _ _ _ _ _ sy (by omega) (by omega) f_L) (cwV 1 hts (nT_V wl_X4_72 wi_X4_coinageOf ws_X4_coinageOf wn_X4 wc_X4_coinageOf) rfl rfl rfl (by decide +kernel) ⟨Nat.le_of_ble_eq_true rfl, Nat.le_of_ble_eq_true rfl⟩) (nB.preV hK hI hP (by omega) f_L rfl rfl) rfl rfl hl.1 rfl (lv_room (Nat.le_of_ble_eq_true rfl)) dX4_partsOf_2 ⟨Nat.zero_le _, Nat.zero_le _⟩) ?_
  refine lv_astore_n (lv' := [(3, .ref (ad (b + 1 + 4 * sy))), (0, .ref (ad b)), (1, .int (iI ((sy : Nat) : Int))), (2, .ref (ad rw))]) hx hb dX4_partsOf_5 rfl hl (by decide) rfl (fun ls hl => ?_)
  refine n_lconst (z := 0) hx hb dX4_partsOf_6 (by decide) ?_
  refine lv_lstore (lv' := [(4, .long (jI 0)), (3, .ref (ad (b + 1 + 4 * sy))), (0, .ref (ad b)), (1, .int (iI ((sy : Nat) : Int))), (2, .ref (ad rw))]) hx hb dX4_partsOf_7 hl (by decide) rfl (fun ls hl => ?_)
  refine lv_aload_n hx hb dX4_partsOf_9 rfl (lv_at hl 1 rfl) ?_
  refine lv_ifnull hx hb dX4_partsOf_10 ?_
  refine n_iconst hx hb dX4_partsOf_13 ?_
  refine lv_istore (lv' := [(6, .int (iI 0)), (4, .long (jI 0)), (3, .ref (ad (b + 1 + 4 * sy))), (0, .ref (ad b)), (1, .int (iI ((sy : Nat) : Int))), (2, .ref (ad rw))]) hx hb dX4_partsOf_14 hl (by decide) rfl (fun ls hl => ?_)
  have lp1 : ∀ (fu : Nat), ∀ (q : Nat), ∀ (ls : Array Slot), cnt - q < fu → q ≤ cnt → lv_has ls 7 [(0, .ref (ad b)), (1, .int (iI ((sy : Nat) : Int))), (2, .ref (ad rw)), (3, .ref (ad (b + 1 + 4 * sy))), (4, .long (jI ((sumP ct val q : Nat) : Int))), (6, .int (iI ((q : Nat) : Int)))] → W p l e ({ frames := 1, cells := 0, slots := 0, locals := 21 } : Room) s m ([.ref (ad b), .int (iI ((sy : Nat) : Int)), .ref (ad rw)] : List Value).toArray below meth cd s.heap [] 0 0 Q (F0 m 16 ls []) := by
    intro fu
    induction fu with
    | zero =>
      intro q ls hfu hq hl
      exact absurd hfu (Nat.not_lt_zero _)
    | succ fu ih2 =>
      intro q ls hfu hq hl
      refine lv_iload hx hb dX4_partsOf_16 (lv_at hl 5 rfl) ?_
      refine lv_aload_n hx hb dX4_partsOf_18 rfl (lv_at hl 3 rfl) ?_
      refine n_get hx hb hts u_X1 hown hK hP (by omega) f_o rfl 0 (by decide) (nT_m wf_X4_93) rfl dX4_partsOf_19 ?_
      refine n_icmp_ge (tgt := 50) hx hb dX4_partsOf_22 (by decide) (by omega) (by omega) (fun hc22 => ?_) (fun hc22 => ?_)
      · skip
        refine lv_lload hx hb dX4_partsOf_50 (lv_at hl 4 rfl) ?_
        refine lv_aload_n hx hb dX4_partsOf_52 rfl (lv_at hl 0 rfl) ?_
        refine lv_iload_n hx hb dX4_partsOf_53 rfl (lv_at hl 1 rfl) ?_
        refine n_rdF (va_runV (As := [.int (iI ((sy : Nat) : Int))]) (rest := [.long (jI ((sumP ct val q : Nat) : Int))]) ⟨hx, hb, hml, hown, hts⟩ (c_X4_unitParts _ _ _ _ _ sy (by omega) (by omega) f_L) (cwV 1 hts (nT_V wl_X4_89 wi_X4_unitParts ws_X4_unitParts wn_X4 wc_X4_unitParts) rfl rfl rfl (by decide +kernel) ⟨Nat.le_of_ble_eq_true rfl, Nat.le_of_ble_eq_true rfl⟩) (nB.preV hK hI hP (by omega) f_L rfl rfl) rfl rfl hl.1 rfl (lv_room (Nat.le_of_ble_eq_true rfl)) dX4_partsOf_54 ⟨Nat.zero_le _, Nat.zero_le _⟩) ?_
        have hun : (if sy = 0 then ra else rb) ≤ 100 := by split <;> omega
        refine n_i2l hx hb dX4_partsOf_57 (by omega) ?_
        refine n_lmul hx hb dX4_partsOf_58 ?_
        exact n_lretR hQ hx hb hr hlocks (by rw [show q = cnt by omega]) dX4_partsOf_59
      · skip
        refine lv_lload hx hb dX4_partsOf_25 (lv_at hl 4 rfl) ?_
        refine lv_aload_n hx hb dX4_partsOf_27 rfl (lv_at hl 2 rfl) ?_
        refine lv_iload hx hb dX4_partsOf_28 (lv_at hl 5 rfl) ?_
        refine n_iald hx hb hK hP q (by omega) f_c (by omega) (by omega) (by decide) dX4_partsOf_30 ?_
        have ho3 := hct q
        refine n_i2l hx hb dX4_partsOf_31 (by omega) ?_
        refine lv_aload_n hx hb dX4_partsOf_32 rfl (lv_at hl 3 rfl) ?_
        refine n_get hx hb hts u_X1 hown hK hP (by omega) f_o rfl 1 (by decide) (nT_m wf_X4_86) rfl dX4_partsOf_33 ?_
        refine lv_iload hx hb dX4_partsOf_36 (lv_at hl 5 rfl) ?_
        refine n_iald hx hb hK hP q (by omega) f_v (by omega) (by omega) (by decide) dX4_partsOf_38 ?_
        have ho4 := hval q
        refine n_i2l hx hb dX4_partsOf_39 (by omega) ?_
        refine n_lmul hx hb dX4_partsOf_40 ?_
        refine n_ladd hx hb dX4_partsOf_41 ?_
        refine lv_lstore (lv' := [(4, .long (jI (((sumP ct val q : Nat) : Int) + ((ct q : Int) * (val q : Int))))), (0, .ref (ad b)), (1, .int (iI ((sy : Nat) : Int))), (2, .ref (ad rw)), (3, .ref (ad (b + 1 + 4 * sy))), (6, .int (iI ((q : Nat) : Int)))]) hx hb dX4_partsOf_42 hl (by decide) rfl (fun ls hl => ?_)
        refine lv_iinc (v := iI (((q : Nat) : Int) + 1)) (lv' := [(6, .int (iI (((q : Nat) : Int) + 1))), (4, .long (jI (((sumP ct val q : Nat) : Int) + ((ct q : Int) * (val q : Int))))), (0, .ref (ad b)), (1, .int (iI ((sy : Nat) : Int))), (2, .ref (ad rw)), (3, .ref (ad (b + 1 + 4 * sy)))]) hx hb dX4_partsOf_44 hl (k := 5) rfl (by first | exact iI_add _ _ | exact (iI_add _ _).trans (congrArg iI (by omega))) (by decide) rfl (fun ls hl => ?_)
        refine lv_goto (tgt := 16) hx hb dX4_partsOf_47 (by decide) ?_
        exact ih2 (q + 1) _ (by omega) (by omega) (by first | exact lv_sub hl [2, 3, 4, 5, 1, 0] rfl | exact lv_cast (lv_sub (l' := [(0, .ref (ad b)), (1, .int (iI ((sy : Nat) : Int))), (2, .ref (ad rw)), (3, .ref (ad (b + 1 + 4 * sy))), (4, .long (jI (((sumP ct val q : Nat) : Int) + ((ct q : Int) * (val q : Int))))), (6, .int (iI (((q : Nat) : Int) + 1)))]) hl [2, 3, 4, 5, 1, 0] rfl) (lc_s (lc_s (lc_s (lc_s (lc_j (show ((((sumP ct val q : Nat) : Int) + ((ct q : Int) * (val q : Int))) : Int) = ((sumP ct val (q + 1) : Nat) : Int) by rfl) (lc_i (show ((((q : Nat) : Int) + 1) : Int) = (((q + 1) : Nat) : Int) by omega) rfl)))))))
  exact lp1 (cnt - 0 + 1) 0 _ (Nat.lt_succ_self _) (by omega) (by first | exact lv_sub hl [3, 4, 5, 2, 1, 0] rfl | exact lv_cast (lv_sub (l' := [(0, .ref (ad b)), (1, .int (iI ((sy : Nat) : Int))), (2, .ref (ad rw)), (3, .ref (ad (b + 1 + 4 * sy))), (4, .long (jI 0)), (6, .int (iI 0))]) hl [3, 4, 5, 2, 1, 0] rfl) (lc_s (lc_s (lc_s (lc_s (lc_j (show (0 : Int) = ((sumP ct val 0 : Nat) : Int) by omega) (lc_i (show (0 : Int) = ((0 : Nat) : Int) by omega) rfl)))))))
set_option maxHeartbeats 4000000 in
set_option maxRecDepth 100000 in
theorem c_X4_roundsUp {l : Launch} (ru st ov sp : Nat) (hru : ru ≤ 3) (hst : st < 1073741824) (hov : ov < 1073741824) (hsp : sp < 1073741824) : Met l yX4_roundsUp wsX4_roundsUp ({ frames := 0, cells := 0, slots := 0, locals := 0 }) (fun v _ => v = ([.int (iI ((ru : Nat) : Int)), .int (iI ((st : Nat) : Int)), .int (iI ((ov : Nat) : Int)), .int (iI ((sp : Nat) : Int))] : List Value).toArray) (nRd (.int (iI (bI (nUp ru st ov sp = true))))) 0 0 (fun _ => False) := by
  refine n_ent0 (cc := cX4_roundsUp) (maxL := 4) (ret := (some .boolean)) (by decide) rfl (Nat.le_of_ble_eq_true rfl) ?_
  intro p e s m below meth cd hx hb hr hml hlocks hts hown Q hQ ls hl
  have hown : s.vm.findClass RX4 = some m.cls := hown
  have hl : lv_has ls 4 [(0, .int (iI ((ru : Nat) : Int))), (1, .int (iI ((st : Nat) : Int))), (2, .int (iI ((ov : Nat) : Int))), (3, .int (iI ((sp : Nat) : Int)))] := hl
  refine lv_iload_n hx hb dX4_roundsUp_0 rfl (lv_at hl 0 rfl) ?_
  by_cases hsw1 : ((ru : Nat) : Int) = 1
  · skip
    refine lv_tableIn (tgt := 28) (off := 27) hx hb dX4_roundsUp_1 (by rw [iI_T (by omega)]; omega) (by rw [iI_T (by omega)]; omega) (by rw [iI_T (by omega), hsw1]; rfl) (by decide) ?_
    refine lv_iload_n hx hb dX4_roundsUp_28 rfl (lv_at hl 2 rfl) ?_
    refine n_if_le (tgt := 36) hx hb dX4_roundsUp_29 (by decide) (by omega) (fun hc29 => ?_) (fun hc29 => ?_)
    · skip
      refine n_iconst hx hb dX4_roundsUp_36 ?_
      exact n_zretR hQ hx hb hr hlocks (by rw [show ru = 1 by omega]; unfold bI; simp [nUp] <;> omega) dX4_roundsUp_37
    · skip
      refine n_iconst hx hb dX4_roundsUp_32 ?_
      refine lv_goto (tgt := 37) hx hb dX4_roundsUp_33 (by decide) ?_
      exact n_zretR hQ hx hb hr hlocks (by rw [show ru = 1 by omega]; unfold bI; simp [nUp] <;> omega) dX4_roundsUp_37
  by_cases hsw2 : ((ru : Nat) : Int) = 2
  · skip
    refine lv_tableIn (tgt := 38) (off := 37) hx hb dX4_roundsUp_1 (by rw [iI_T (by omega)]; omega) (by rw [iI_T (by omega)]; omega) (by rw [iI_T (by omega), hsw2]; rfl) (by decide) ?_
    refine n_iconst hx hb dX4_roundsUp_38 ?_
    refine lv_iload_n hx hb dX4_roundsUp_39 rfl (lv_at hl 2 rfl) ?_
    refine n_imul hx hb dX4_roundsUp_40 ?_
    refine lv_iload_n hx hb dX4_roundsUp_41 rfl (lv_at hl 3 rfl) ?_
    refine n_icmp_lt (tgt := 49) hx hb dX4_roundsUp_42 (by decide) (by omega) (by omega) (fun hc42 => ?_) (fun hc42 => ?_)
    · skip
      refine n_iconst hx hb dX4_roundsUp_49 ?_
      exact n_zretR hQ hx hb hr hlocks (by rw [show ru = 2 by omega]; unfold bI; simp [nUp] <;> omega) dX4_roundsUp_50
    · skip
      refine n_iconst hx hb dX4_roundsUp_45 ?_
      refine lv_goto (tgt := 50) hx hb dX4_roundsUp_46 (by decide) ?_
      exact n_zretR hQ hx hb hr hlocks (by rw [show ru = 2 by omega]; unfold bI; simp [nUp] <;> omega) dX4_roundsUp_50
  by_cases hsw3 : ((ru : Nat) : Int) = 3
  · skip
    refine lv_tableIn (tgt := 51) (off := 50) hx hb dX4_roundsUp_1 (by rw [iI_T (by omega)]; omega) (by rw [iI_T (by omega)]; omega) (by rw [iI_T (by omega), hsw3]; rfl) (by decide) ?_
    refine n_iconst hx hb dX4_roundsUp_51 ?_
    refine lv_iload_n hx hb dX4_roundsUp_52 rfl (lv_at hl 2 rfl) ?_
    refine n_imul hx hb dX4_roundsUp_53 ?_
    refine lv_iload_n hx hb dX4_roundsUp_54 rfl (lv_at hl 3 rfl) ?_
    refine n_icmp_gt (tgt := 72) hx hb dX4_roundsUp_55 (by decide) (by omega) (by omega) (fun hc55 => ?_) (fun hc55 => ?_)
    · skip
      refine n_iconst hx hb dX4_roundsUp_72 ?_
      refine lv_goto (tgt := 77) hx hb dX4_roundsUp_73 (by decide) ?_
      exact n_zretR hQ hx hb hr hlocks (by rw [show ru = 3 by omega]; unfold bI; simp [nUp] <;> omega) dX4_roundsUp_77
    · skip
      refine n_iconst hx hb dX4_roundsUp_58 ?_
      refine lv_iload_n hx hb dX4_roundsUp_59 rfl (lv_at hl 2 rfl) ?_
      refine n_imul hx hb dX4_roundsUp_60 ?_
      refine lv_iload_n hx hb dX4_roundsUp_61 rfl (lv_at hl 3 rfl) ?_
      refine n_icmp_ne (tgt := 76) hx hb dX4_roundsUp_62 (by decide) (by omega) (by omega) (fun hc62 => ?_) (fun hc62 => ?_)
      · skip
        refine n_iconst hx hb dX4_roundsUp_76 ?_
        exact n_zretR hQ hx hb hr hlocks (by rw [show ru = 3 by omega]; unfold bI; simp [nUp] <;> omega) dX4_roundsUp_77
      · skip
        refine lv_iload_n hx hb dX4_roundsUp_65 rfl (lv_at hl 1 rfl) ?_
        refine n_iconst hx hb dX4_roundsUp_66 ?_
        refine n_iand1 hx hb st dX4_roundsUp_67 (by omega) (by omega) ?_
        refine n_iconst hx hb dX4_roundsUp_68 ?_
        refine n_icmp_ne (tgt := 76) hx hb dX4_roundsUp_69 (by decide) (by omega) (by omega) (fun hc69 => ?_) (fun hc69 => ?_)
        · skip
          refine n_iconst hx hb dX4_roundsUp_76 ?_
          exact n_zretR hQ hx hb hr hlocks (by rw [show ru = 3 by omega]; unfold bI; simp [nUp] <;> omega) dX4_roundsUp_77
        · skip
          refine n_iconst hx hb dX4_roundsUp_72 ?_
          refine lv_goto (tgt := 77) hx hb dX4_roundsUp_73 (by decide) ?_
          exact n_zretR hQ hx hb hr hlocks (by rw [show ru = 3 by omega]; unfold bI; simp [nUp] <;> omega) dX4_roundsUp_77
  refine lv_tableOut (tgt := 78) hx hb dX4_roundsUp_1 (by rw [iI_T (by omega)]; omega) (by decide) ?_
  refine n_iconst hx hb dX4_roundsUp_78 ?_
  exact n_zretR hQ hx hb hr hlocks (by rw [show ru = 0 by omega]; unfold bI; simp [nUp] <;> omega) dX4_roundsUp_79
set_option maxHeartbeats 4000000 in
set_option maxRecDepth 100000 in
theorem c_X4_newPrice {l : Launch} {G : nG} {N : Nat} {ad : Nat → Nat} {w : Nat → va_E} {sz : Nat} (b tn ra rb stp : Nat) (gn : Nat) (gp gt : Nat → Nat) (gd ru : Nat) (hN : b + 49 < N) (htn : tn ≤ 4) (hra : 1 ≤ ra ∧ ra ≤ 100) (hrb : 1 ≤ rb ∧ rb ≤ 100) (hst : 1 ≤ stp ∧ stp ≤ 100) (hgp : ∀ k, gp k ≤ 10000) (hgt : ∀ k, gt k ≤ 100) (hg : gd < gn ∧ gn ≤ 14) (hru : ru ≤ 3) (f_L : w b = .inr (4, [.ref (ad (b + 1)), .ref (ad (b + 5)), .ref (ad (b + 9)), .ref (ad (b + 12)), .ref (ad (b + 13)), .int (iI ((tn : Nat) : Int)), .int (iI ((ra : Nat) : Int)), .int (iI ((rb : Nat) : Int)), .int (iI ((stp : Nat) : Int))])) (f_g : w (b + 9) = .inr (3, [.int (iI ((gn : Nat) : Int)), .ref (ad ((b + 9) + 1)), .ref (ad ((b + 9) + 2))])) (f_gp : w ((b + 9) + 1) = aI G 14 (fun q => (gp q : Int))) : Met l yX4_newPrice wsX4_newPrice ({ frames := 1, cells := 0, slots := 0, locals := 23 }) (va_Pc [.ref (ad b), .int (iI ((gd : Nat) : Int)), .int (iI ((ru : Nat) : Int))] (nB G N ad w sz)) (nRd (.int (iI ((nPr (gp gd * ra) (stp * rb) stp ru : Nat) : Int)))) 0 0 (fun _ => False) := by
  refine n_ent (cc := cX4_newPrice) (maxL := 7) (ret := (some .int)) (by decide) rfl (Nat.le_of_ble_eq_true rfl) ?_
  intro p e s m below meth cd hx hb hr hml hlocks hts hown hnm hsz hP hK hI Q hQ ls hl
  have hown : s.vm.findClass RX4 = some m.cls := hown
  have hl : lv_has ls 7 [(0, .ref (ad b)), (1, .int (iI ((gd : Nat) : Int))), (2, .int (iI ((ru : Nat) : Int)))] := hl
  have hpa : gp gd * ra ≤ 10000 * 100 := Nat.mul_le_mul (hgp gd) hra.2
  have hsp1 : stp * rb ≤ 100 * 100 := Nat.mul_le_mul hst.2 hrb.2
  have hsp0 : 1 * 1 ≤ stp * rb := Nat.mul_le_mul hst.1 hrb.1
  have hdl : gp gd * ra / (stp * rb) ≤ gp gd * ra := Nat.div_le_self _ _
  have hml9 : gp gd * ra % (stp * rb) < stp * rb := Nat.mod_lt _ (by omega)
  refine lv_aload_n hx hb dX4_newPrice_0 rfl (lv_at hl 0 rfl) ?_
  refine n_get hx hb hts u_X4 hown hK hP (by omega) f_L rfl 2 (by decide) (nT_m wf_X4_24) rfl dX4_newPrice_1 ?_
  refine n_get hx hb hts u_X3 hown hK hP (by omega) f_g rfl 1 (by decide) (nT_m wf_X4_96) rfl dX4_newPrice_4 ?_
  refine lv_iload_n hx hb dX4_newPrice_7 rfl (lv_at hl 1 rfl) ?_
  refine n_iald hx hb hK hP gd (by omega) f_gp (by omega) (by omega) (by decide) dX4_newPrice_8 ?_
  have ho1 := hgp gd
  refine lv_aload_n hx hb dX4_newPrice_9 rfl (lv_at hl 0 rfl) ?_
  refine n_get hx hb hts u_X4 hown hK hP (by omega) f_L rfl 6 (by decide) (nT_m wf_X4_42) rfl dX4_newPrice_10 ?_
  refine n_imul hx hb dX4_newPrice_13 ?_
  refine lv_istore_n (lv' := [(3, .int (iI ((gp gd * ra : Nat) : Int))), (0, .ref (ad b)), (1, .int (iI ((gd : Nat) : Int))), (2, .int (iI ((ru : Nat) : Int)))]) hx hb dX4_newPrice_14 rfl hl (by decide) rfl (fun ls hl => ?_)
  refine lv_aload_n hx hb dX4_newPrice_15 rfl (lv_at hl 1 rfl) ?_
  refine n_get hx hb hts u_X4 hown hK hP (by omega) f_L rfl 8 (by decide) (nT_m wf_X4_48) rfl dX4_newPrice_16 ?_
  refine lv_aload_n hx hb dX4_newPrice_19 rfl (lv_at hl 1 rfl) ?_
  refine n_get hx hb hts u_X4 hown hK hP (by omega) f_L rfl 7 (by decide) (nT_m wf_X4_45) rfl dX4_newPrice_20 ?_
  refine n_imul hx hb dX4_newPrice_23 ?_
  refine lv_istore (lv' := [(4, .int (iI ((stp * rb : Nat) : Int))), (3, .int (iI ((gp gd * ra : Nat) : Int))), (0, .ref (ad b)), (1, .int (iI ((gd : Nat) : Int))), (2, .int (iI ((ru : Nat) : Int)))]) hx hb dX4_newPrice_24 hl (by decide) rfl (fun ls hl => ?_)
  refine lv_iload_n hx hb dX4_newPrice_26 rfl (lv_at hl 1 rfl) ?_
  refine lv_iload hx hb dX4_newPrice_27 (lv_at hl 0 rfl) ?_
  refine n_rdF (v := .int (iI (((gp gd * ra) / (stp * rb) : Nat) : Int))) (va_runSN (As := [.int (iI ((gp gd * ra : Nat) : Int)), .int (iI ((stp * rb : Nat) : Int))]) (rest := []) ⟨hx, hb, hml, hown, hts⟩ (c_X6_wholeTimes ((gp gd * ra : Nat) : Int) ((stp * rb : Nat) : Int) (by omega) (by omega)) ⟨va_cnB 2 hts (nT_N wc_X6_wholeTimes) rfl rfl rfl (hK.2 _ (List.mem_of_getElem? (i := 6) rfl)) (hts _ (nT_m wn_X6)) (by decide +kernel) ⟨Nat.le_of_ble_eq_true rfl, Nat.le_of_ble_eq_true rfl⟩, hts _ (nT_m wt_X6_wholeTimes), trivial⟩ preEq rfl rfl hl.1 rfl (lv_room (Nat.le_of_ble_eq_true rfl)) dX4_newPrice_29 ⟨Nat.zero_le _, Nat.zero_le _⟩) ?_
  refine lv_istore (lv' := [(5, .int (iI ((gp gd * ra / (stp * rb) : Nat) : Int))), (4, .int (iI ((stp * rb : Nat) : Int))), (3, .int (iI ((gp gd * ra : Nat) : Int))), (0, .ref (ad b)), (1, .int (iI ((gd : Nat) : Int))), (2, .int (iI ((ru : Nat) : Int)))]) hx hb dX4_newPrice_32 hl (by decide) rfl (fun ls hl => ?_)
  refine lv_iload_n hx hb dX4_newPrice_34 rfl (lv_at hl 2 rfl) ?_
  refine lv_iload hx hb dX4_newPrice_35 (lv_at hl 0 rfl) ?_
  refine lv_iload hx hb dX4_newPrice_37 (lv_at hl 1 rfl) ?_
  refine n_imul hx hb dX4_newPrice_39 ?_
  refine n_isub hx hb dX4_newPrice_40 ?_
  refine lv_istore (lv' := [(6, .int (iI ((gp gd * ra % (stp * rb) : Nat) : Int))), (5, .int (iI ((gp gd * ra / (stp * rb) : Nat) : Int))), (4, .int (iI ((stp * rb : Nat) : Int))), (3, .int (iI ((gp gd * ra : Nat) : Int))), (0, .ref (ad b)), (1, .int (iI ((gd : Nat) : Int))), (2, .int (iI ((ru : Nat) : Int)))]) hx hb dX4_newPrice_41 hl (by decide) (by rw [nmodN]; rfl) (fun ls hl => ?_)
  refine lv_iload_n hx hb dX4_newPrice_43 rfl (lv_at hl 6 rfl) ?_
  refine lv_iload hx hb dX4_newPrice_44 (lv_at hl 1 rfl) ?_
  refine lv_iload hx hb dX4_newPrice_46 (lv_at hl 0 rfl) ?_
  refine lv_iload hx hb dX4_newPrice_48 (lv_at hl 2 rfl) ?_
  refine n_rdF (va_runS (As := [.int (iI ((ru : Nat) : Int)), .int (iI ((gp gd * ra / (stp * rb) : Nat) : Int)), .int (iI ((gp gd * ra % (stp * rb) : Nat) : Int)), .int (iI ((stp * rb : Nat) : Int))]) (rest := []) ⟨hx, hb, hml, hown, hts⟩ (c_X4_roundsUp ru (gp gd * ra / (stp * rb)) (gp gd * ra % (stp * rb)) (stp * rb) (by omega) (by omega) (by omega) (by omega)) (va_cwS 4 hts (nT_S wl_X4_103 wt_X4_roundsUp wn_X4 wc_X4_roundsUp) rfl rfl rfl (by decide +kernel) ⟨Nat.le_of_ble_eq_true rfl, Nat.le_of_ble_eq_true rfl⟩) preEq rfl rfl hl.1 rfl (lv_room (Nat.le_of_ble_eq_true rfl)) dX4_newPrice_50 ⟨Nat.zero_le _, Nat.zero_le _⟩) ?_
  refine n_if_eqB (tgt := 63) hx hb dX4_newPrice_53 (by decide) (fun hc53 => ?_) (fun hc53 => ?_)
  · skip
    refine lv_iload hx hb dX4_newPrice_63 (lv_at hl 1 rfl) ?_
    refine lv_aload_n hx hb dX4_newPrice_65 rfl (lv_at hl 4 rfl) ?_
    refine n_get hx hb hts u_X4 hown hK hP (by omega) f_L rfl 8 (by decide) (nT_m wf_X4_48) rfl dX4_newPrice_66 ?_
    refine n_imul hx hb dX4_newPrice_69 ?_
    exact n_iretR hQ hx hb hr hlocks (by unfold nPr; rw [if_neg hc53]; rfl) dX4_newPrice_70
  · skip
    refine lv_iload hx hb dX4_newPrice_56 (lv_at hl 1 rfl) ?_
    refine n_iconst hx hb dX4_newPrice_58 ?_
    refine n_iadd hx hb dX4_newPrice_59 ?_
    refine lv_goto (tgt := 65) hx hb dX4_newPrice_60 (by decide) ?_
    refine lv_aload_n hx hb dX4_newPrice_65 rfl (lv_at hl 4 rfl) ?_
    refine n_get hx hb hts u_X4 hown hK hP (by omega) f_L rfl 8 (by decide) (nT_m wf_X4_48) rfl dX4_newPrice_66 ?_
    refine n_imul hx hb dX4_newPrice_69 ?_
    exact n_iretR hQ hx hb hr hlocks (by unfold nPr; rw [if_pos hc53]; rfl) dX4_newPrice_70
set_option maxHeartbeats 4000000 in
set_option maxRecDepth 100000 in
theorem c_X4_gainOf {l : Launch} {G : nG} {N : Nat} {ad : Nat → Nat} {w : Nat → va_E} {sz : Nat} (b tn ra rb stp : Nat) (gn : Nat) (gp gt : Nat → Nat) (gd ru : Nat) (hN : b + 49 < N) (htn : tn ≤ 4) (hra : 1 ≤ ra ∧ ra ≤ 100) (hrb : 1 ≤ rb ∧ rb ≤ 100) (hst : 1 ≤ stp ∧ stp ≤ 100) (hgp : ∀ k, gp k ≤ 10000) (hgt : ∀ k, gt k ≤ 100) (hg : gd < gn ∧ gn ≤ 14) (hru : ru ≤ 3) (f_L : w b = .inr (4, [.ref (ad (b + 1)), .ref (ad (b + 5)), .ref (ad (b + 9)), .ref (ad (b + 12)), .ref (ad (b + 13)), .int (iI ((tn : Nat) : Int)), .int (iI ((ra : Nat) : Int)), .int (iI ((rb : Nat) : Int)), .int (iI ((stp : Nat) : Int))])) (f_g : w (b + 9) = .inr (3, [.int (iI ((gn : Nat) : Int)), .ref (ad ((b + 9) + 1)), .ref (ad ((b + 9) + 2))])) (f_gp : w ((b + 9) + 1) = aI G 14 (fun q => (gp q : Int))) (f_gt : w ((b + 9) + 2) = aI G 14 (fun q => (gt q : Int))) : Met l yX4_gainOf wsX4_gainOf ({ frames := 2, cells := 0, slots := 0, locals := 49 }) (va_Pc [.ref (ad b), .int (iI ((gd : Nat) : Int)), .int (iI ((ru : Nat) : Int))] (nB G N ad w sz)) (nRd (.long (jI ((((nPr (gp gd * ra) (stp * rb) stp ru : Nat) : Int) * ((rb : Nat) : Int) - (gp gd : Int) * ((ra : Nat) : Int)) * (gt gd : Int))))) 0 0 (fun _ => False) := by
  refine n_ent (cc := cX4_gainOf) (maxL := 5) (ret := (some .long)) (by decide) rfl (Nat.le_of_ble_eq_true rfl) ?_
  intro p e s m below meth cd hx hb hr hml hlocks hts hown hnm hsz hP hK hI Q hQ ls hl
  have hown : s.vm.findClass RX4 = some m.cls := hown
  have hl : lv_has ls 5 [(0, .ref (ad b)), (1, .int (iI ((gd : Nat) : Int))), (2, .int (iI ((ru : Nat) : Int)))] := hl
  refine lv_aload_n hx hb dX4_gainOf_0 rfl (lv_at hl 0 rfl) ?_
  refine lv_iload_n hx hb dX4_gainOf_1 rfl (lv_at hl 1 rfl) ?_
  refine lv_iload_n hx hb dX4_gainOf_2 rfl (lv_at hl 2 rfl) ?_
  refine n_rdF (va_runV (As := [.int (iI ((gd : Nat) : Int)), .int (iI ((ru : Nat) : Int))]) (rest := []) ⟨hx, hb, hml, hown, hts⟩ (c_X4_newPrice _ _ _ _ _ _ gp gt gd ru (by omega) htn hra hrb hst hgp hgt (by omega) (by omega) f_L f_g f_gp) (cwV 2 hts (nT_V wl_X4_107 wi_X4_newPrice ws_X4_newPrice wn_X4 wc_X4_newPrice) rfl rfl rfl (by decide +kernel) ⟨Nat.le_of_ble_eq_true rfl, Nat.le_of_ble_eq_true rfl⟩) (nB.preV hK hI hP (by omega) f_L rfl rfl) rfl rfl hl.1 rfl (lv_room (Nat.le_of_ble_eq_true rfl)) dX4_gainOf_3 ⟨Nat.zero_le _, Nat.zero_le _⟩) ?_
  have hnp := nPr_rng (sp := stp * rb) (ru := ru) (Nat.mul_le_mul (hgp gd) hra.2) hst.2
  refine n_i2l hx hb dX4_gainOf_6 (by omega) ?_
  refine lv_aload_n hx hb dX4_gainOf_7 rfl (lv_at hl 0 rfl) ?_
  refine n_get hx hb hts u_X4 hown hK hP (by omega) f_L rfl 7 (by decide) (nT_m wf_X4_45) rfl dX4_gainOf_8 ?_
  refine n_i2l hx hb dX4_gainOf_11 (by omega) ?_
  refine n_lmul hx hb dX4_gainOf_12 ?_
  refine lv_aload_n hx hb dX4_gainOf_13 rfl (lv_at hl 0 rfl) ?_
  refine n_get hx hb hts u_X4 hown hK hP (by omega) f_L rfl 2 (by decide) (nT_m wf_X4_24) rfl dX4_gainOf_14 ?_
  refine n_get hx hb hts u_X3 hown hK hP (by omega) f_g rfl 1 (by decide) (nT_m wf_X4_96) rfl dX4_gainOf_17 ?_
  refine lv_iload_n hx hb dX4_gainOf_20 rfl (lv_at hl 1 rfl) ?_
  refine n_iald hx hb hK hP gd (by omega) f_gp (by omega) (by omega) (by decide) dX4_gainOf_21 ?_
  have ho1 := hgp gd
  refine n_i2l hx hb dX4_gainOf_22 (by omega) ?_
  refine lv_aload_n hx hb dX4_gainOf_23 rfl (lv_at hl 0 rfl) ?_
  refine n_get hx hb hts u_X4 hown hK hP (by omega) f_L rfl 6 (by decide) (nT_m wf_X4_42) rfl dX4_gainOf_24 ?_
  refine n_i2l hx hb dX4_gainOf_27 (by omega) ?_
  refine n_lmul hx hb dX4_gainOf_28 ?_
  refine n_lsub hx hb dX4_gainOf_29 ?_
  refine lv_lstore_n (lv' := [(3, .long (jI ((((nPr (gp gd * ra) (stp * rb) stp ru : Nat) : Int) * ((rb : Nat) : Int)) - ((gp gd : Int) * ((ra : Nat) : Int))))), (0, .ref (ad b)), (1, .int (iI ((gd : Nat) : Int))), (2, .int (iI ((ru : Nat) : Int)))]) hx hb dX4_gainOf_30 rfl hl (by decide) rfl (fun ls hl => ?_)
  refine lv_lload_n hx hb dX4_gainOf_31 rfl (lv_at hl 0 rfl) ?_
  refine lv_aload_n hx hb dX4_gainOf_32 rfl (lv_at hl 1 rfl) ?_
  refine n_get hx hb hts u_X4 hown hK hP (by omega) f_L rfl 2 (by decide) (nT_m wf_X4_24) rfl dX4_gainOf_33 ?_
  refine n_get hx hb hts u_X3 hown hK hP (by omega) f_g rfl 2 (by decide) (nT_m wf_X4_110) rfl dX4_gainOf_36 ?_
  refine lv_iload_n hx hb dX4_gainOf_39 rfl (lv_at hl 2 rfl) ?_
  refine n_iald hx hb hK hP gd (by omega) f_gt (by omega) (by omega) (by decide) dX4_gainOf_40 ?_
  have ho2 := hgt gd
  refine n_i2l hx hb dX4_gainOf_41 (by omega) ?_
  refine n_lmul hx hb dX4_gainOf_42 ?_
  exact n_lretR hQ hx hb hr hlocks rfl dX4_gainOf_43
theorem c_X3_isGoodW10 {l : Launch} {G : nG} {N : Nat} {ad : Nat → Nat} {w : Nat → va_E} {sz : Nat} (i gn : Nat) (z : Int) (hN : i + 2 < N) (hc : gn ≤ 14) (hz : -2147483648 ≤ z ∧ z < 2147483648) (f_g : w i = .inr (3, [.int (iI ((gn : Nat) : Int)), .ref (ad (i + 1)), .ref (ad (i + 2))])) : Met l yX3_isGood wsX3_isGood ({ frames := 1, cells := 0, slots := 0, locals := 22 }) (va_Pc [.ref (ad i), .int (iI (z - 10))] (nB G N ad w sz)) (nRd (.int (iI (bI (10 ≤ z ∧ z < 10 + (gn : Int)))))) 0 0 (fun _ => False) := by
  by_cases h : -2147483648 ≤ z - 10
  · have e1 : bI (10 ≤ z ∧ z < 10 + (gn : Int)) = bI (0 ≤ z - 10 ∧ z - 10 < (gn : Int)) := bI_c (by omega)
    rw [e1]
    exact c_X3_isGood i gn (z - 10) hN hc (by omega) f_g
  · have e1 : bI (10 ≤ z ∧ z < 10 + (gn : Int)) = bI (0 ≤ z - 10 + 4294967296 ∧ z - 10 + 4294967296 < (gn : Int)) := bI_c (by omega)
    rw [e1, ← iI_wrap (z - 10)]
    exact c_X3_isGood i gn (z - 10 + 4294967296) hN hc (by omega) f_g
theorem c_X3_isGoodW30 {l : Launch} {G : nG} {N : Nat} {ad : Nat → Nat} {w : Nat → va_E} {sz : Nat} (i gn : Nat) (z : Int) (hN : i + 2 < N) (hc : gn ≤ 14) (hz : -2147483648 ≤ z ∧ z < 2147483648) (f_g : w i = .inr (3, [.int (iI ((gn : Nat) : Int)), .ref (ad (i + 1)), .ref (ad (i + 2))])) : Met l yX3_isGood wsX3_isGood ({ frames := 1, cells := 0, slots := 0, locals := 22 }) (va_Pc [.ref (ad i), .int (iI (z - 30))] (nB G N ad w sz)) (nRd (.int (iI (bI (30 ≤ z ∧ z < 30 + (gn : Int)))))) 0 0 (fun _ => False) := by
  by_cases h : -2147483648 ≤ z - 30
  · have e1 : bI (30 ≤ z ∧ z < 30 + (gn : Int)) = bI (0 ≤ z - 30 ∧ z - 30 < (gn : Int)) := bI_c (by omega)
    rw [e1]
    exact c_X3_isGood i gn (z - 30) hN hc (by omega) f_g
  · have e1 : bI (30 ≤ z ∧ z < 30 + (gn : Int)) = bI (0 ≤ z - 30 + 4294967296 ∧ z - 30 + 4294967296 < (gn : Int)) := bI_c (by omega)
    rw [e1, ← iI_wrap (z - 30)]
    exact c_X3_isGood i gn (z - 30 + 4294967296) hN hc (by omega) f_g
set_option maxHeartbeats 4000000 in
set_option maxRecDepth 100000 in
theorem c_X4_goodDetail {l : Launch} {G : nG} {N : Nat} {ad : Nat → Nat} {w : Nat → va_E} {sz : Nat} (b tn ra rb stp : Nat) (gn : Nat) (gp gt : Nat → Nat) (z : Int) (hN : b + 49 < N) (hgp : ∀ k, gp k ≤ 10000) (hgt : ∀ k, gt k ≤ 100) (hg : gn ≤ 14) (hz : -2147483648 ≤ z ∧ z < 2147483648) (f_L : w b = .inr (4, [.ref (ad (b + 1)), .ref (ad (b + 5)), .ref (ad (b + 9)), .ref (ad (b + 12)), .ref (ad (b + 13)), .int (iI ((tn : Nat) : Int)), .int (iI ((ra : Nat) : Int)), .int (iI ((rb : Nat) : Int)), .int (iI ((stp : Nat) : Int))])) (f_g : w (b + 9) = .inr (3, [.int (iI ((gn : Nat) : Int)), .ref (ad ((b + 9) + 1)), .ref (ad ((b + 9) + 2))])) (f_gp : w ((b + 9) + 1) = aI G 14 (fun q => (gp q : Int))) (f_gt : w ((b + 9) + 2) = aI G 14 (fun q => (gt q : Int))) : Met l yX4_goodDetail wsX4_goodDetail ({ frames := 2, cells := 0, slots := 0, locals := 43 }) (va_Pc [.ref (ad b), .int (iI z)] (nB G N ad w sz)) (nRd (.int (iI (ldG gn gp gt z)))) 0 0 (fun _ => False) := by
  refine n_ent (cc := cX4_goodDetail) (maxL := 2) (ret := (some .int)) (by decide) rfl (Nat.le_of_ble_eq_true rfl) ?_
  intro p e s m below meth cd hx hb hr hml hlocks hts hown hnm hsz hP hK hI Q hQ ls hl
  have hown : s.vm.findClass RX4 = some m.cls := hown
  have hl : lv_has ls 2 [(0, .ref (ad b)), (1, .int (iI z))] := hl
  refine lv_aload_n hx hb dX4_goodDetail_0 rfl (lv_at hl 0 rfl) ?_
  refine n_get hx hb hts u_X4 hown hK hP (by omega) f_L rfl 2 (by decide) (nT_m wf_X4_24) rfl dX4_goodDetail_1 ?_
  refine lv_iload_n hx hb dX4_goodDetail_4 rfl (lv_at hl 1 rfl) ?_
  refine n_bipush hx hb dX4_goodDetail_5 (by decide) ?_
  refine n_isub hx hb dX4_goodDetail_7 ?_
  refine n_rdF (va_runV (As := [.int (iI (z - 10))]) (rest := []) ⟨hx, hb, hml, hown, hts⟩ (c_X3_isGoodW10 _ gn z (by omega) (by omega) (by omega) f_g) (cwV 1 hts (nT_V wl_X4_117 wi_X3_isGood ws_X3_isGood wn_X3 wc_X3_isGood) rfl rfl rfl (by decide +kernel) ⟨Nat.le_of_ble_eq_true rfl, Nat.le_of_ble_eq_true rfl⟩) (nB.preV hK hI hP (by omega) f_g rfl rfl) rfl rfl hl.1 rfl (lv_room (Nat.le_of_ble_eq_true rfl)) dX4_goodDetail_8 ⟨Nat.zero_le _, Nat.zero_le _⟩) ?_
  refine n_if_eqB (tgt := 27) hx hb dX4_goodDetail_11 (by decide) (fun hc11 => ?_) (fun hc11 => ?_)
  · skip
    refine lv_aload_n hx hb dX4_goodDetail_27 rfl (lv_at hl 0 rfl) ?_
    refine n_get hx hb hts u_X4 hown hK hP (by omega) f_L rfl 2 (by decide) (nT_m wf_X4_24) rfl dX4_goodDetail_28 ?_
    refine lv_iload_n hx hb dX4_goodDetail_31 rfl (lv_at hl 1 rfl) ?_
    refine n_bipush hx hb dX4_goodDetail_32 (by decide) ?_
    refine n_isub hx hb dX4_goodDetail_34 ?_
    refine n_rdF (va_runV (As := [.int (iI (z - 30))]) (rest := []) ⟨hx, hb, hml, hown, hts⟩ (c_X3_isGoodW30 _ gn z (by omega) (by omega) (by omega) f_g) (cwV 1 hts (nT_V wl_X4_117 wi_X3_isGood ws_X3_isGood wn_X3 wc_X3_isGood) rfl rfl rfl (by decide +kernel) ⟨Nat.le_of_ble_eq_true rfl, Nat.le_of_ble_eq_true rfl⟩) (nB.preV hK hI hP (by omega) f_g rfl rfl) rfl rfl hl.1 rfl (lv_room (Nat.le_of_ble_eq_true rfl)) dX4_goodDetail_35 ⟨Nat.zero_le _, Nat.zero_le _⟩) ?_
    refine n_if_eqB (tgt := 56) hx hb dX4_goodDetail_38 (by decide) (fun hc38 => ?_) (fun hc38 => ?_)
    · skip
      refine n_iconst hx hb dX4_goodDetail_56 ?_
      exact n_iretR hQ hx hb hr hlocks (by unfold ldG; repeat (first | rw [if_pos (by omega)] | rw [if_neg (by omega)])) dX4_goodDetail_57
    · skip
      refine lv_aload_n hx hb dX4_goodDetail_41 rfl (lv_at hl 0 rfl) ?_
      refine n_get hx hb hts u_X4 hown hK hP (by omega) f_L rfl 2 (by decide) (nT_m wf_X4_24) rfl dX4_goodDetail_42 ?_
      refine n_get hx hb hts u_X3 hown hK hP (by omega) f_g rfl 2 (by decide) (nT_m wf_X4_110) rfl dX4_goodDetail_45 ?_
      refine lv_iload_n hx hb dX4_goodDetail_48 rfl (lv_at hl 1 rfl) ?_
      refine n_bipush hx hb dX4_goodDetail_49 (by decide) ?_
      refine n_isub hx hb dX4_goodDetail_51 ?_
      refine n_iald hx hb hK hP ((z - 30).toNat) (by omega) f_gt (by omega) (by omega) (by decide) dX4_goodDetail_52 ?_
      have ho1 := hgt ((z - 30).toNat)
      refine lv_goto (tgt := 57) hx hb dX4_goodDetail_53 (by decide) ?_
      exact n_iretR hQ hx hb hr hlocks (by unfold ldG; repeat (first | rw [if_pos (by omega)] | rw [if_neg (by omega)])) dX4_goodDetail_57
  · skip
    refine lv_aload_n hx hb dX4_goodDetail_14 rfl (lv_at hl 0 rfl) ?_
    refine n_get hx hb hts u_X4 hown hK hP (by omega) f_L rfl 2 (by decide) (nT_m wf_X4_24) rfl dX4_goodDetail_15 ?_
    refine n_get hx hb hts u_X3 hown hK hP (by omega) f_g rfl 1 (by decide) (nT_m wf_X4_96) rfl dX4_goodDetail_18 ?_
    refine lv_iload_n hx hb dX4_goodDetail_21 rfl (lv_at hl 1 rfl) ?_
    refine n_bipush hx hb dX4_goodDetail_22 (by decide) ?_
    refine n_isub hx hb dX4_goodDetail_24 ?_
    refine n_iald hx hb hK hP ((z - 10).toNat) (by omega) f_gp (by omega) (by omega) (by decide) dX4_goodDetail_25 ?_
    have ho2 := hgp ((z - 10).toNat)
    exact n_iretR hQ hx hb hr hlocks (by unfold ldG; repeat (first | rw [if_pos (by omega)] | rw [if_neg (by omega)])) dX4_goodDetail_26
set_option maxHeartbeats 4000000 in
set_option maxRecDepth 100000 in
theorem c_X4_detail {l : Launch} {G : nG} {N : Nat} {ad : Nat → Nat} {w : Nat → va_E} {sz : Nat} (b tn ra rb stp : Nat) (gn : Nat) (gp gt : Nat → Nat) (z : Int) (hN : b + 49 < N) (hgp : ∀ k, gp k ≤ 10000) (hgt : ∀ k, gt k ≤ 100) (hg : gn ≤ 14) (hz : -2147483648 ≤ z ∧ z < 2147483648) (f_L : w b = .inr (4, [.ref (ad (b + 1)), .ref (ad (b + 5)), .ref (ad (b + 9)), .ref (ad (b + 12)), .ref (ad (b + 13)), .int (iI ((tn : Nat) : Int)), .int (iI ((ra : Nat) : Int)), .int (iI ((rb : Nat) : Int)), .int (iI ((stp : Nat) : Int))])) (f_g : w (b + 9) = .inr (3, [.int (iI ((gn : Nat) : Int)), .ref (ad ((b + 9) + 1)), .ref (ad ((b + 9) + 2))])) (f_gp : w ((b + 9) + 1) = aI G 14 (fun q => (gp q : Int))) (f_gt : w ((b + 9) + 2) = aI G 14 (fun q => (gt q : Int))) : Met l yX4_detail wsX4_detail ({ frames := 3, cells := 0, slots := 0, locals := 64 }) (va_Pc [.ref (ad b), .int (iI z)] (nB G N ad w sz)) (nRd (.int (iI (ldD gn tn ra rb stp gp gt z)))) 0 0 (fun _ => False) := by
  refine n_ent (cc := cX4_detail) (maxL := 2) (ret := (some .int)) (by decide) rfl (Nat.le_of_ble_eq_true rfl) ?_
  intro p e s m below meth cd hx hb hr hml hlocks hts hown hnm hsz hP hK hI Q hQ ls hl
  have hown : s.vm.findClass RX4 = some m.cls := hown
  have hl : lv_has ls 2 [(0, .ref (ad b)), (1, .int (iI z))] := hl
  refine lv_iload_n hx hb dX4_detail_0 rfl (lv_at hl 1 rfl) ?_
  by_cases hsw0 : z = 0
  · skip
    refine lv_tableIn (tgt := 36) (off := 35) hx hb dX4_detail_1 (by rw [iI_T (by omega)]; omega) (by rw [iI_T (by omega)]; omega) (by rw [iI_T (by omega), hsw0]; rfl) (by decide) ?_
    refine lv_aload_n hx hb dX4_detail_36 rfl (lv_at hl 0 rfl) ?_
    refine n_get hx hb hts u_X4 hown hK hP (by omega) f_L rfl 2 (by decide) (nT_m wf_X4_24) rfl dX4_detail_37 ?_
    refine n_get hx hb hts u_X3 hown hK hP (by omega) f_g rfl 0 (by decide) (nT_m wf_X4_113) rfl dX4_detail_40 ?_
    exact n_iretR hQ hx hb hr hlocks (by unfold ldD; repeat (first | rw [if_pos (by omega)] | rw [if_neg (by omega)])) dX4_detail_43
  by_cases hsw1 : z = 1
  · skip
    refine lv_tableIn (tgt := 44) (off := 43) hx hb dX4_detail_1 (by rw [iI_T (by omega)]; omega) (by rw [iI_T (by omega)]; omega) (by rw [iI_T (by omega), hsw1]; rfl) (by decide) ?_
    refine lv_aload_n hx hb dX4_detail_44 rfl (lv_at hl 0 rfl) ?_
    refine n_get hx hb hts u_X4 hown hK hP (by omega) f_L rfl 5 (by decide) (nT_m wf_X4_38) rfl dX4_detail_45 ?_
    exact n_iretR hQ hx hb hr hlocks (by unfold ldD; repeat (first | rw [if_pos (by omega)] | rw [if_neg (by omega)])) dX4_detail_48
  by_cases hsw2 : z = 2
  · skip
    refine lv_tableIn (tgt := 49) (off := 48) hx hb dX4_detail_1 (by rw [iI_T (by omega)]; omega) (by rw [iI_T (by omega)]; omega) (by rw [iI_T (by omega), hsw2]; rfl) (by decide) ?_
    refine lv_aload_n hx hb dX4_detail_49 rfl (lv_at hl 0 rfl) ?_
    refine n_get hx hb hts u_X4 hown hK hP (by omega) f_L rfl 6 (by decide) (nT_m wf_X4_42) rfl dX4_detail_50 ?_
    exact n_iretR hQ hx hb hr hlocks (by unfold ldD; repeat (first | rw [if_pos (by omega)] | rw [if_neg (by omega)])) dX4_detail_53
  by_cases hsw3 : z = 3
  · skip
    refine lv_tableIn (tgt := 54) (off := 53) hx hb dX4_detail_1 (by rw [iI_T (by omega)]; omega) (by rw [iI_T (by omega)]; omega) (by rw [iI_T (by omega), hsw3]; rfl) (by decide) ?_
    refine lv_aload_n hx hb dX4_detail_54 rfl (lv_at hl 0 rfl) ?_
    refine n_get hx hb hts u_X4 hown hK hP (by omega) f_L rfl 7 (by decide) (nT_m wf_X4_45) rfl dX4_detail_55 ?_
    exact n_iretR hQ hx hb hr hlocks (by unfold ldD; repeat (first | rw [if_pos (by omega)] | rw [if_neg (by omega)])) dX4_detail_58
  by_cases hsw4 : z = 4
  · skip
    refine lv_tableIn (tgt := 59) (off := 58) hx hb dX4_detail_1 (by rw [iI_T (by omega)]; omega) (by rw [iI_T (by omega)]; omega) (by rw [iI_T (by omega), hsw4]; rfl) (by decide) ?_
    refine lv_aload_n hx hb dX4_detail_59 rfl (lv_at hl 0 rfl) ?_
    refine n_get hx hb hts u_X4 hown hK hP (by omega) f_L rfl 8 (by decide) (nT_m wf_X4_48) rfl dX4_detail_60 ?_
    exact n_iretR hQ hx hb hr hlocks (by unfold ldD; repeat (first | rw [if_pos (by omega)] | rw [if_neg (by omega)])) dX4_detail_63
  refine lv_tableOut (tgt := 64) hx hb dX4_detail_1 (by rw [iI_T (by omega)]; omega) (by decide) ?_
  refine lv_aload_n hx hb dX4_detail_64 rfl (lv_at hl 0 rfl) ?_
  refine lv_iload_n hx hb dX4_detail_65 rfl (lv_at hl 1 rfl) ?_
  refine n_rdF (va_runV (As := [.int (iI z)]) (rest := []) ⟨hx, hb, hml, hown, hts⟩ (c_X4_goodDetail _ _ _ _ _ _ gp gt z (by omega) hgp hgt (by omega) (by omega) f_L f_g f_gp f_gt) (cwV 1 hts (nT_V wl_X4_114 wi_X4_goodDetail ws_X4_goodDetail wn_X4 wc_X4_goodDetail) rfl rfl rfl (by decide +kernel) ⟨Nat.le_of_ble_eq_true rfl, Nat.le_of_ble_eq_true rfl⟩) (nB.preV hK hI hP (by omega) f_L rfl rfl) rfl rfl hl.1 rfl (lv_room (Nat.le_of_ble_eq_true rfl)) dX4_detail_66 ⟨Nat.zero_le _, Nat.zero_le _⟩) ?_
  exact n_iretR hQ hx hb hr hlocks (by unfold ldD; repeat (first | rw [if_pos (by omega)] | rw [if_neg (by omega)])) dX4_detail_69
