
theorem allow_s {A Tn T1 : Nat → Int} {v lim M f : Nat} (hf : f < v) (hd : ∀ s1, s1 ≤ M → s1 % v < f → isMn A v lim s1 (Tn s1)) (h2 : ∀ p1, f + p1 * v ≤ M → isMn A v lim (f + p1 * v) (T1 (f + p1 * v))) (h3 : ∀ s1, (∀ p1, s1 = f + p1 * v → M < s1) → T1 s1 = Tn s1) : ∀ s1, s1 ≤ M → s1 % v < f + 1 → isMn A v lim s1 (T1 s1) := by
  intro s1 hs hm
  have e1 : s1 = s1 % v + s1 / v * v := by rw [Nat.mul_comm]; exact (Nat.mod_add_div s1 v).symm
  by_cases h : s1 % v = f
  · rw [h] at e1
    have := h2 (s1 / v) (by omega)
    rw [← e1] at this
    exact this
  · rw [h3 s1 (fun p1 e => by
      have : s1 % v = f := by rw [e, Nat.add_mul_mod_self_right, Nat.mod_eq_of_lt hf]
      omega)]
    exact hd s1 hs (by omega)
theorem fam_up {G : nG} {i n : Nat} {tb : Nat → Nat → Int} {w w1 : Nat → va_E} {Tn : Nat → Int} (j : Nat) (hne : ∀ k, k < n → k ≠ j → w1 (i + 3 + k) = w (i + 3 + k)) (hw : ∀ k, k < n → w (i + 3 + k) = aI G 2001 (tb k)) (hT : w1 (i + 3 + j) = aI G 2001 Tn) : ∀ k, k < n → w1 (i + 3 + k) = aI G 2001 (va_up tb j Tn k) := by
  intro k hk
  by_cases h : k = j
  · subst h
    rw [hT, va_up_self]
  · rw [hne k hk h, hw k hk, va_up_ne _ _ h]
def dn (P : Nat → Bool) : Nat → Nat
  | 0 => 0
  | n + 1 => if P (n + 1) then n + 1 else dn P n
theorem dn_y {P : Nat → Bool} {n : Nat} (h : P (n + 1) = true) : dn P (n + 1) = n + 1 := by
  show (if P (n + 1) then _ else _) = _
  rw [if_pos h]
theorem dn_n {P : Nat → Bool} {n : Nat} (h : P (n + 1) = false) : dn P (n + 1) = dn P n := by
  show (if P (n + 1) then _ else _) = _
  rw [if_neg (by rw [h]; decide)]
theorem dn_le (P : Nat → Bool) : ∀ n, dn P n ≤ n
  | 0 => Nat.le_refl _
  | n + 1 => by
    have := dn_le P n
    by_cases h : P (n + 1) = true
    · rw [dn_y h]
      omega
    · rw [dn_n (by simpa using h)]
      omega
def wrP (tb : Nat → Nat → Int) (q v left n : Nat) : Bool := decide (¬ tb (q - 1) (left - n * v) = -1 ∧ tb (q - 1) (left - n * v) + (n : Int) = tb q left)
def wrN (tb : Nat → Nat → Int) (val fal lim : Nat → Nat) (cnt left j : Nat) : Nat := dn (wrP tb (cnt - j) (val (fal j)) left) (min (lim (fal j)) (left / val (fal j)))
def wrL (tb : Nat → Nat → Int) (val fal lim : Nat → Nat) (cnt sm : Nat) : Nat → Nat
  | 0 => sm
  | j + 1 => wrL tb val fal lim cnt sm j - wrN tb val fal lim cnt (wrL tb val fal lim cnt sm j) j * val (fal j)
def wrR (tb : Nat → Nat → Int) (val fal lim : Nat → Nat) (cnt sm : Nat) (row : Nat → Int) : Nat → (Nat → Int)
  | 0 => row
  | j + 1 => va_up (wrR tb val fal lim cnt sm row j) (fal j) (wrN tb val fal lim cnt (wrL tb val fal lim cnt sm j) j : Nat)
theorem wrL_le (tb : Nat → Nat → Int) (val fal lim : Nat → Nat) (cnt sm : Nat) : ∀ j, wrL tb val fal lim cnt sm j ≤ sm
  | 0 => Nat.le_refl _
  | j + 1 => Nat.le_trans (Nat.sub_le _ _) (wrL_le tb val fal lim cnt sm j)
def tbOK (val fal lim : Nat → Nat) (cnt sm : Nat) (tb : Nat → Nat → Int) : Prop := (∀ s1, s1 ≤ sm → tb 0 s1 = if s1 = 0 then 0 else -1) ∧ ∀ k, k < cnt → ∀ s1, s1 ≤ sm → isMn (tb k) (val (fal (cnt - 1 - k))) (lim (fal (cnt - 1 - k))) s1 (tb (k + 1) s1)
def tbIn (val fal lim : Nat → Nat) (cnt sm ii : Nat) (tb : Nat → Nat → Int) : Prop := (∀ s1, s1 ≤ sm → tb 0 s1 = if s1 = 0 then 0 else -1) ∧ ∀ k, k < ii → ∀ s1, s1 ≤ sm → isMn (tb k) (val (fal (cnt - 1 - k))) (lim (fal (cnt - 1 - k))) s1 (tb (k + 1) s1)
theorem tbIn_rng {val fal lim : Nat → Nat} {cnt sm ii : Nat} {tb : Nat → Nat → Int} (hii : ii ≤ cnt) (hval1 : ∀ k, k < cnt → 1 ≤ val k) (hfal : ∀ k, k < cnt → fal k < cnt) (h : tbIn val fal lim cnt sm ii tb) : ∀ k, k ≤ ii → ∀ s1, s1 ≤ sm → -1 ≤ tb k s1 ∧ tb k s1 ≤ s1
  | 0, _, s1, hs => by
    rw [h.1 s1 hs]
    split <;> omega
  | k + 1, hk, s1, hs => isMn_rng (hval1 _ (hfal _ (by omega))) (fun q hq => tbIn_rng hii hval1 hfal h k (by omega) q (by omega)) (h.2 k (by omega) s1 hs)
theorem tbIn_s {val fal lim : Nat → Nat} {cnt sm ii : Nat} {tb : Nat → Nat → Int} {Tn : Nat → Int} (h : tbIn val fal lim cnt sm ii tb) (hT : ∀ s1, s1 ≤ sm → isMn (tb ii) (val (fal (cnt - 1 - ii))) (lim (fal (cnt - 1 - ii))) s1 (Tn s1)) : tbIn val fal lim cnt sm (ii + 1) (va_up tb (ii + 1) Tn) := by
  refine ⟨fun s1 hs => ?_, fun k hk s1 hs => ?_⟩
  · rw [va_up_ne _ _ (by omega)]
    exact h.1 s1 hs
  · by_cases e : k = ii
    · subst e
      rw [va_up_ne _ _ (by omega), va_up_self]
      exact hT s1 hs
    · rw [va_up_ne _ _ (by omega), va_up_ne _ _ (by omega)]
      exact h.2 k (by omega) s1 hs
theorem fill_one {F : Nat → Int} {s1 : Nat} (h : s1 < 2001) : va_up (fillF F (-1) 2001) 0 0 s1 = if s1 = 0 then 0 else -1 := by
  unfold va_up fillF
  by_cases e : s1 = 0
  · rw [if_pos e, if_pos e]
  · rw [if_neg e, if_neg e, if_pos h]
theorem min_cast (a b : Nat) : (min (a : Int) (b : Int)) = ((min a b : Nat) : Int) := by omega

theorem n_mmax {p : Program} {l : Launch} {e : Env} {R : Room} {s : State} {m : MethodId} {args : Array Value} {below : List Frame} {meth : Method} {c : Code} {H : Heap} {locs : List Loc} {cells slots : Nat} {Q : State → Prop} {cc : ByteArray} {pc : Nat} {ls : Array Slot} {rest : List Value} (hx : p.tables.exec = Jvm.exec) (hb : c.code = cc) (hml : c.maxLocals = ls.size) {own : String} {index : Nat} (hown : s.vm.findClass own = some m.cls) (hlink : (Cond.methodLink own index Lib.Math.max.name).before args s = true) (hstat : (Cond.static Lib.Math.max.name).before args s = true) (hini : (Cond.initialized "java/lang/Math").before args s = true) (hcode : (Cond.code Lib.Math.max.name Lib.Math.max.code 2 (some .int)).before args s = true) (hframes : 1 ≤ R.frames) (hlocals : (rest.map fun v => v.category).sum + 13 ≤ R.locals) (hc : cells ≤ R.cells) (hs : slots ≤ R.slots) {a b : Int} (ha : -2147483648 ≤ a ∧ a < 2147483648) (hb' : -2147483648 ≤ b ∧ b < 2147483648) (hdg : decode cc pc = .ok (.invokestatic index, 3)) (kk : W p l e R s m args below meth c H locs cells slots Q (F0 m (pc + 3) ls (.int (iI (max a b)) :: rest))) : W p l e R s m args below meth c H locs cells slots Q (F0 m pc ls (.int (iI b) :: .int (iI a) :: rest)) := by
  refine va_mmax hx hb hml hown hlink hstat hini hcode hframes hlocals hc hs hdg ?_
  have e9 : (if iI a < iI b then iI b else iI a) = iI (max a b) := by
    by_cases h : a < b
    · rw [if_pos ((iI_lt ha hb').mpr h), show max a b = b by omega]
    · rw [if_neg (fun q => h ((iI_lt ha hb').mp q)), show max a b = a by omega]
  rw [e9]
  exact kk
theorem n_mmin {p : Program} {l : Launch} {e : Env} {R : Room} {s : State} {m : MethodId} {args : Array Value} {below : List Frame} {meth : Method} {c : Code} {H : Heap} {locs : List Loc} {cells slots : Nat} {Q : State → Prop} {cc : ByteArray} {pc : Nat} {ls : Array Slot} {rest : List Value} (hx : p.tables.exec = Jvm.exec) (hb : c.code = cc) (hml : c.maxLocals = ls.size) {own : String} {index : Nat} (hown : s.vm.findClass own = some m.cls) (hlink : (Cond.methodLink own index Lib.Math.min.name).before args s = true) (hstat : (Cond.static Lib.Math.min.name).before args s = true) (hini : (Cond.initialized "java/lang/Math").before args s = true) (hcode : (Cond.code Lib.Math.min.name Lib.Math.min.code 2 (some .int)).before args s = true) (hframes : 1 ≤ R.frames) (hlocals : (rest.map fun v => v.category).sum + 13 ≤ R.locals) (hc : cells ≤ R.cells) (hs : slots ≤ R.slots) {a b : Int} (ha : -2147483648 ≤ a ∧ a < 2147483648) (hb' : -2147483648 ≤ b ∧ b < 2147483648) (hdg : decode cc pc = .ok (.invokestatic index, 3)) (kk : W p l e R s m args below meth c H locs cells slots Q (F0 m (pc + 3) ls (.int (iI (min a b)) :: rest))) : W p l e R s m args below meth c H locs cells slots Q (F0 m pc ls (.int (iI b) :: .int (iI a) :: rest)) := by
  refine va_mmin hx hb hml hown hlink hstat hini hcode hframes hlocals hc hs hdg ?_
  have e9 : (if iI b < iI a then iI b else iI a) = iI (min a b) := by
    by_cases h : b < a
    · rw [if_pos ((iI_lt hb' ha).mpr h), show min a b = b by omega]
    · rw [if_neg (fun q => h ((iI_lt hb' ha).mp q)), show min a b = a by omega]
  first
    | (rw [e9]; exact kk)
    | (have e8 : (if iI a < iI b then iI a else iI b) = iI (min a b) := by
        by_cases h : a < b
        · rw [if_pos ((iI_lt ha hb').mpr h), show min a b = a by omega]
        · rw [if_neg (fun q => h ((iI_lt ha hb').mp q)), show min a b = b by omega]
       rw [e8]; exact kk)
    | (have e8 : (if iI b < iI a then iI b else iI a) = iI (min a b) := e9
       simp only [Int32.not_lt] at *; exact kk)
theorem n_mabs {p : Program} {l : Launch} {e : Env} {R : Room} {s : State} {m : MethodId} {args : Array Value} {below : List Frame} {meth : Method} {c : Code} {H : Heap} {locs : List Loc} {cells slots : Nat} {Q : State → Prop} {cc : ByteArray} {pc : Nat} {ls : Array Slot} {rest : List Value} (hx : p.tables.exec = Jvm.exec) (hb : c.code = cc) (hml : c.maxLocals = ls.size) {own : String} {index : Nat} (hown : s.vm.findClass own = some m.cls) (hlink : (Cond.methodLink own index Lib.MathLoose.abs_long.x).before args s = true) (hstat : (Cond.static Lib.MathLoose.abs_long.x).before args s = true) (hini : (Cond.initialized "java/lang/Math").before args s = true) (hcode : (Cond.code Lib.MathLoose.abs_long.x Lib.MathLoose.abs_long.code 2 (some .long)).before args s = true) (hframes : 1 ≤ R.frames) (hlocals : (rest.map fun v => v.category).sum + 13 ≤ R.locals) (hc : cells ≤ R.cells) (hs : slots ≤ R.slots) {a : Int} (ha : -9223372036854775807 ≤ a ∧ a < 9223372036854775808) (hdg : decode cc pc = .ok (.invokestatic index, 3)) (kk : W p l e R s m args below meth c H locs cells slots Q (F0 m (pc + 3) ls (.long (jI (max a (-a))) :: rest))) : W p l e R s m args below meth c H locs cells slots Q (F0 m pc ls (.long (jI a) :: rest)) := by
  refine va_mabs_long hx hb hml hown hlink hstat hini hcode hframes hlocals hc hs hdg ?_
  have e9 : (if 0 < jI a then jI a else -jI a) = jI (max a (-a)) := by
    have h0 : (0 : Int64) = jI 0 := rfl
    by_cases h : 0 < a
    · rw [if_pos (by rw [h0]; exact (jI_lt (by decide) (by omega)).mpr h), show max a (-a) = a by omega]
    · rw [if_neg (fun q => h ((jI_lt (by decide) (by omega)).mp (by rw [← h0]; exact q))), jI_neg, show max a (-a) = -a by omega]
  rw [e9]
  exact kk
set_option maxHeartbeats 4000000 in
set_option maxRecDepth 100000 in
theorem c_X0_allow {l : Launch} {G : nG} {N : Nat} {ad : Nat → Nat} {w : Nat → va_E} {sz : Nat} (i ii v lim M : Nat) (A T P0 C0 : Nat → Int) (hN : i + 13 < N) (hii : ii < 8) (hv : 1 ≤ v ∧ v ≤ 1000) (hM : M ≤ 2000) (hlim : lim ≤ 2000) (hA : ∀ k, k ≤ M → -1 ≤ A k ∧ A k ≤ k) (f_m : w i = .inr (0, [.ref (ad (i + 1)), .ref (ad (i + 2)), .ref (ad (i + 12)), .ref (ad (i + 13))])) (f_g : w (i + 2) = aR G 5 9 (fun k => some (ad (i + 3 + k)))) (f_r0 : w (i + 3 + ii) = aI G 2001 A) (f_r1 : w (i + 3 + (ii + 1)) = aI G 2001 T) (f_pl : w (i + 12) = aI G 2001 P0) (f_co : w (i + 13) = aI G 2001 C0) : Met l yX0_allow wsX0_allow ({ frames := 2, cells := 0, slots := 0, locals := 53 }) (va_Pc [.ref (ad i), .int (iI ((ii : Nat) : Int)), .int (iI ((v : Nat) : Int)), .int (iI ((lim : Nat) : Int)), .int (iI ((M : Nat) : Int))] (nB G N ad w sz)) (nPv G N ad sz (fun u => (∀ j, j ≠ (i + 3 + (ii + 1)) → j ≠ (i + 12) → j ≠ (i + 13) → u j = w j) ∧ (∃ Tn, u (i + 3 + (ii + 1)) = aI G 2001 Tn ∧ (∀ s1, s1 ≤ M → isMn A v lim s1 (Tn s1))) ∧ (∃ Pn, u (i + 12) = aI G 2001 Pn) ∧ (∃ Cn, u (i + 13) = aI G 2001 Cn))) 0 0 (nA N ad sz) := by
  refine n_ent (cc := cX0_allow) (maxL := 6) (ret := (none : Option Jvm.ClassFile.FieldType)) (by decide) rfl (Nat.le_of_ble_eq_true rfl) ?_
  intro p e s m below meth cd hx hb hr hml hlocks hts hown hnm hsz hP hK hI Q hQ ls hl
  have hown : s.vm.findClass RX0 = some m.cls := hown
  subst hsz
  have hJ := hI.J s.heap.size
  have hS : va_S (nA N ad s.heap.size) s.heap s.heap [] := va_S.rf
  have hfr : ∀ j, j ≠ (i + 3 + (ii + 1)) → j ≠ (i + 12) → j ≠ (i + 13) → w j = w j := fun _ _ _ _ => rfl
  have hl : lv_has ls 6 [(0, .ref (ad i)), (1, .int (iI ((ii : Nat) : Int))), (2, .int (iI ((v : Nat) : Int))), (3, .int (iI ((lim : Nat) : Int))), (4, .int (iI ((M : Nat) : Int)))] := hl
  refine n_iconst hx hb dX0_allow_0 ?_
  refine lv_istore (lv' := [(5, .int (iI 0)), (0, .ref (ad i)), (1, .int (iI ((ii : Nat) : Int))), (2, .int (iI ((v : Nat) : Int))), (3, .int (iI ((lim : Nat) : Int))), (4, .int (iI ((M : Nat) : Int)))]) hx hb dX0_allow_1 hl (by decide) rfl (fun ls hl => ?_)
  have lp1 : ∀ (fu : Nat), ∀ (f : Nat) (Tn : Nat → Int) (Pn : Nat → Int) (Cn : Nat → Int), ∀ (w2 : Nat → va_E) (H : Heap) (locs : List Loc), ∀ (ls : Array Slot), v - f < fu → f ≤ v → (∀ s1, s1 ≤ M → s1 % v < f → isMn A v lim s1 (Tn s1)) → (∀ j, j ≠ (i + 3 + (ii + 1)) → j ≠ (i + 12) → j ≠ (i + 13) → w2 j = w j) → w2 i = .inr (0, [.ref (ad (i + 1)), .ref (ad (i + 2)), .ref (ad (i + 12)), .ref (ad (i + 13))]) → w2 (i + 2) = aR G 5 9 (fun k => some (ad (i + 3 + k))) → w2 (i + 3 + ii) = aI G 2001 A → w2 (i + 3 + (ii + 1)) = aI G 2001 Tn → w2 (i + 12) = aI G 2001 Pn → w2 (i + 13) = aI G 2001 Cn → va_P G.1 vwCl (nL N ad w2) H → va_S (nA N ad s.heap.size) s.heap H locs → lv_has ls 6 [(0, .ref (ad i)), (1, .int (iI ((ii : Nat) : Int))), (2, .int (iI ((v : Nat) : Int))), (3, .int (iI ((lim : Nat) : Int))), (4, .int (iI ((M : Nat) : Int))), (5, .int (iI ((f : Nat) : Int)))] → W p l e ({ frames := 2, cells := 0, slots := 0, locals := 53 } : Room) s m ([.ref (ad i), .int (iI ((ii : Nat) : Int)), .int (iI ((v : Nat) : Int)), .int (iI ((lim : Nat) : Int)), .int (iI ((M : Nat) : Int))] : List Value).toArray below meth cd H locs 0 0 Q (F0 m 3 ls []) := by
    intro fu
    induction fu with
    | zero =>
      intro f Tn Pn Cn w2 H locs ls hfu hfv hd hfr f_m f_g f_r0 f_r1 f_pl f_co hP hS hl
      exact absurd hfu (Nat.not_lt_zero _)
    | succ fu ih3 =>
      intro f Tn Pn Cn w2 H locs ls hfu hfv hd hfr f_m f_g f_r0 f_r1 f_pl f_co hP hS hl
      refine lv_iload hx hb dX0_allow_3 (lv_at hl 5 rfl) ?_
      refine lv_iload_n hx hb dX0_allow_5 rfl (lv_at hl 2 rfl) ?_
      refine n_icmp_ge (tgt := 46) hx hb dX0_allow_6 (by decide) (by omega) (by omega) (fun hc6 => ?_) (fun hc6 => ?_)
      · skip
        refine n_vretP hQ hx hb hr hlocks hP hS dX0_allow_46 ?_
        exact ⟨hfr, ⟨Tn, f_r1, fun s1 h1 => hd s1 h1 (Nat.lt_of_lt_of_le (Nat.mod_lt s1 (by omega)) (by omega))⟩, ⟨_, f_pl⟩, ⟨_, f_co⟩⟩
      · skip
        refine lv_iload hx hb dX0_allow_9 (lv_at hl 5 rfl) ?_
        refine lv_iload hx hb dX0_allow_11 (lv_at hl 4 rfl) ?_
        refine n_icmp_gt (tgt := 46) hx hb dX0_allow_13 (by decide) (by omega) (by omega) (fun hc13 => ?_) (fun hc13 => ?_)
        · skip
          refine n_vretP hQ hx hb hr hlocks hP hS dX0_allow_46 ?_
          exact ⟨hfr, ⟨Tn, f_r1, fun s1 h1 => hd s1 h1 (Nat.lt_of_le_of_lt (Nat.mod_le s1 v) (by omega))⟩, ⟨_, f_pl⟩, ⟨_, f_co⟩⟩
        · skip
          refine lv_aload_n hx hb dX0_allow_16 rfl (lv_at hl 0 rfl) ?_
          refine lv_aload_n hx hb dX0_allow_17 rfl (lv_at hl 0 rfl) ?_
          refine n_get hx hb hts u_X0 hown hK hP (by omega) f_m rfl 1 (by decide) (nT_m wf_X0_17) rfl dX0_allow_18 ?_
          refine lv_iload_n hx hb dX0_allow_21 rfl (lv_at hl 1 rfl) ?_
          refine n_aald hx hb hK hP (.array .int) ii (by omega) f_g rfl rfl (by omega) (by omega) (by decide) rfl dX0_allow_22 ?_
          refine lv_aload_n hx hb dX0_allow_23 rfl (lv_at hl 0 rfl) ?_
          refine n_get hx hb hts u_X0 hown hK hP (by omega) f_m rfl 1 (by decide) (nT_m wf_X0_17) rfl dX0_allow_24 ?_
          refine lv_iload_n hx hb dX0_allow_27 rfl (lv_at hl 1 rfl) ?_
          refine n_iconst hx hb dX0_allow_28 ?_
          refine n_iadd hx hb dX0_allow_29 ?_
          refine n_aald hx hb hK hP (.array .int) (ii + 1) (by omega) f_g rfl rfl (by omega) (by omega) (by decide) rfl dX0_allow_30 ?_
          refine lv_iload hx hb dX0_allow_31 (lv_at hl 5 rfl) ?_
          refine lv_iload_n hx hb dX0_allow_33 rfl (lv_at hl 2 rfl) ?_
          refine lv_iload_n hx hb dX0_allow_34 rfl (lv_at hl 3 rfl) ?_
          refine lv_iload hx hb dX0_allow_35 (lv_at hl 4 rfl) ?_
          refine n_cV (va_runV (As := [.ref (ad (i + 3 + ii)), .ref (ad (i + 3 + (ii + 1))), .int (iI ((f : Nat) : Int)), .int (iI ((v : Nat) : Int)), .int (iI ((lim : Nat) : Int)), .int (iI ((M : Nat) : Int))]) (rest := []) ⟨hx, hb, hml, hown, hts⟩ (c_X0_slide i (i + 3 + ii) (i + 3 + (ii + 1)) f v lim M A Tn Pn Cn hN (by omega) hv (by omega) (by omega) hM hlim hA f_m f_r0 f_r1 f_pl f_co) (cwV 6 hts (nT_V wl_X0_56 wi_X0_slide ws_X0_slide wn_X0 wc_X0_slide) rfl rfl rfl (by decide +kernel) ⟨Nat.le_of_ble_eq_true rfl, Nat.le_of_ble_eq_true rfl⟩) (nB.preV hK hI hP (by omega) f_m rfl rfl) rfl rfl hl.1 rfl (lv_room (Nat.le_of_ble_eq_true rfl)) dX0_allow_37 ⟨Nat.zero_le _, Nat.zero_le _⟩) hS (fun w4 H locs hq6 hP hS => ?_)
          obtain ⟨hne7, ⟨T1, hT1, hT2, hT3⟩, ⟨P1, hP1⟩, ⟨C1, hC1⟩⟩ := hq6
          have f_m := (hne7 i (by omega) (by omega) (by omega)).trans f_m
          have f_g := (hne7 (i + 2) (by omega) (by omega) (by omega)).trans f_g
          have f_r0 := (hne7 (i + 3 + ii) (by omega) (by omega) (by omega)).trans f_r0
          have f_r1 : w4 (i + 3 + (ii + 1)) = aI G 2001 T1 := hT1
          have f_pl : w4 (i + 12) = aI G 2001 P1 := hP1
          have f_co : w4 (i + 13) = aI G 2001 C1 := hC1
          have hfr : ∀ j, j ≠ (i + 3 + (ii + 1)) → j ≠ (i + 12) → j ≠ (i + 13) → w4 j = w j := fun j a0 a1 a2 => (hne7 j (by omega) (by omega) (by omega)).trans (hfr j a0 a1 a2)
          refine lv_iinc (v := iI (((f : Nat) : Int) + 1)) (lv' := [(5, .int (iI (((f : Nat) : Int) + 1))), (0, .ref (ad i)), (1, .int (iI ((ii : Nat) : Int))), (2, .int (iI ((v : Nat) : Int))), (3, .int (iI ((lim : Nat) : Int))), (4, .int (iI ((M : Nat) : Int)))]) hx hb dX0_allow_40 hl (k := 5) rfl (by first | exact iI_add _ _ | exact (iI_add _ _).trans (congrArg iI (by omega))) (by decide) rfl (fun ls hl => ?_)
          refine lv_goto (tgt := 3) hx hb dX0_allow_43 (by decide) ?_
          exact ih3 (f + 1) T1 P1 C1 _ _ _ _ (by omega) (by omega) (allow_s (by omega) hd hT2 hT3) hfr f_m f_g f_r0 f_r1 f_pl f_co hP hS (by first | exact lv_sub hl [1, 2, 3, 4, 5, 0] rfl | exact lv_cast (lv_sub (l' := [(0, .ref (ad i)), (1, .int (iI ((ii : Nat) : Int))), (2, .int (iI ((v : Nat) : Int))), (3, .int (iI ((lim : Nat) : Int))), (4, .int (iI ((M : Nat) : Int))), (5, .int (iI (((f : Nat) : Int) + 1)))]) hl [1, 2, 3, 4, 5, 0] rfl) (lc_s (lc_s (lc_s (lc_s (lc_s (lc_i (show ((((f : Nat) : Int) + 1) : Int) = (((f + 1) : Nat) : Int) by omega) rfl)))))))
  exact lp1 (v - 0 + 1) 0 T P0 C0 _ _ _ _ (Nat.lt_succ_self _) (by omega) (fun _ _ h => absurd h (Nat.not_lt_zero _)) hfr f_m f_g f_r0 f_r1 f_pl f_co hP hS (by first | exact lv_sub hl [1, 2, 3, 4, 5, 0] rfl | exact lv_cast (lv_sub (l' := [(0, .ref (ad i)), (1, .int (iI ((ii : Nat) : Int))), (2, .int (iI ((v : Nat) : Int))), (3, .int (iI ((lim : Nat) : Int))), (4, .int (iI ((M : Nat) : Int))), (5, .int (iI 0))]) hl [1, 2, 3, 4, 5, 0] rfl) (lc_s (lc_s (lc_s (lc_s (lc_s (lc_i (show (0 : Int) = ((0 : Nat) : Int) by omega) rfl)))))))
set_option maxHeartbeats 4000000 in
set_option maxRecDepth 100000 in
theorem c_X0_writeRow {l : Launch} {G : nG} {N : Nat} {ad : Nat → Nat} {w : Nat → va_E} {sz : Nat} (i ic rl cnt sm : Nat) (val fal lim : Nat → Nat) (tb : Nat → Nat → Int) (R0 : Nat → Int) (hN : i + 13 < N) (hic : ic + 3 < N ∧ (ic + 3 < i ∨ i + 13 < ic)) (hrl : rl < N ∧ (rl < i ∨ i + 13 < rl)) (hc : cnt ≤ 8) (hval : ∀ k, val k ≤ 1000) (hval1 : ∀ k, k < cnt → 1 ≤ val k) (hfal : ∀ k, k < cnt → fal k < cnt) (hlim : ∀ k, lim k ≤ 2000) (hsm : sm ≤ 2000) (hrg : ∀ k, k ≤ cnt → ∀ s1, s1 ≤ sm → -1 ≤ tb k s1 ∧ tb k s1 ≤ s1) (f_m : w i = .inr (0, [.ref (ad (i + 1)), .ref (ad (i + 2)), .ref (ad (i + 12)), .ref (ad (i + 13))])) (f_g : w (i + 2) = aR G 5 9 (fun k => some (ad (i + 3 + k)))) (f_row : w (i + 1) = aI G 8 R0) (f_rows : ∀ k, k < 9 → w (i + 3 + k) = aI G 2001 (tb k)) (f_o : w ic = .inr (1, [.int (iI ((cnt : Nat) : Int)), .ref (ad (ic + 1)), .ref (ad (ic + 2)), .ref (ad (ic + 3))])) (f_v : w (ic + 1) = aI G 8 (fun q => (val q : Int))) (f_f : w (ic + 2) = aI G 8 (fun q => (fal q : Int))) (f_li : w rl = aI G 8 (fun q => (lim q : Int))) : Met l yX0_writeRow wsX0_writeRow ({ frames := 1, cells := 0, slots := 0, locals := 24 }) (va_Pc [.ref (ad i), .ref (ad ic), .ref (ad rl), .int (iI ((sm : Nat) : Int))] (nB G N ad w sz)) (nPv G N ad sz (fun u => (∀ j, j ≠ (i + 1) → u j = w j) ∧ (u (i + 1) = aI G 8 (wrR tb val fal lim cnt sm (fillF R0 0 8) cnt)))) 0 0 (nA N ad sz) := by
  refine n_ent (cc := cX0_writeRow) (maxL := 9) (ret := (none : Option Jvm.ClassFile.FieldType)) (by decide) rfl (Nat.le_of_ble_eq_true rfl) ?_
  intro p e s m below meth cd hx hb hr hml hlocks hts hown hnm hsz hP hK hI Q hQ ls hl
  have hown : s.vm.findClass RX0 = some m.cls := hown
  subst hsz
  have hJ := hI.J s.heap.size
  have hS : va_S (nA N ad s.heap.size) s.heap s.heap [] := va_S.rf
  have hfr : ∀ j, j ≠ (i + 1) → w j = w j := fun _ _ => rfl
  have hl : lv_has ls 9 [(0, .ref (ad i)), (1, .ref (ad ic)), (2, .ref (ad rl)), (3, .int (iI ((sm : Nat) : Int)))] := hl
  refine lv_aload_n hx hb dX0_writeRow_0 rfl (lv_at hl 0 rfl) ?_
  refine n_get hx hb hts u_X0 hown hK hP (by omega) f_m rfl 0 (by decide) (nT_m wf_X0_9) rfl dX0_writeRow_1 ?_
  refine n_iconst hx hb dX0_writeRow_4 ?_
  refine n_cV (va_runS (As := [.ref (ad (i + 1)), .int (iI 0)]) (rest := []) ⟨hx, hb, hml, hown, hts⟩ (c_J7_fill_53178 (i + 1) 8 R0 0 (by omega) (by decide) f_row) (va_cwS 2 hts (nT_S wl_X0_30 wt_J7_fill_53178 wn_J7 wc_J7_fill_53178) rfl rfl rfl (by decide +kernel) ⟨Nat.le_of_ble_eq_true rfl, Nat.le_of_ble_eq_true rfl⟩) (nB.pre hK hI hP) rfl rfl hl.1 rfl (lv_room (Nat.le_of_ble_eq_true rfl)) dX0_writeRow_5 ⟨Nat.zero_le _, Nat.zero_le _⟩) hS (fun w2 H locs hq4 hP hS => ?_)
  obtain ⟨hne5, hp1⟩ := hq4
  have f_m := (hne5 i (by omega)).trans f_m
  have f_g := (hne5 (i + 2) (by omega)).trans f_g
  have f_rows : ∀ k, k < 9 → w2 (i + 3 + k) = aI G 2001 (tb k) := fun k hk9 => (hne5 _ (by omega)).trans (f_rows _ hk9)
  have f_o := (hne5 ic (by omega)).trans f_o
  have f_v := (hne5 (ic + 1) (by omega)).trans f_v
  have f_f := (hne5 (ic + 2) (by omega)).trans f_f
  have f_li := (hne5 rl (by omega)).trans f_li
  have f_row : w2 (i + 1) = aI G 8 (fillF R0 0 8) := hp1
  have hfr : ∀ j, j ≠ (i + 1) → w2 j = w j := fun j a0 => (hne5 j (by omega)).trans (hfr j a0)
  refine lv_iload_n hx hb dX0_writeRow_8 rfl (lv_at hl 3 rfl) ?_
  refine lv_istore (lv' := [(4, .int (iI ((sm : Nat) : Int))), (0, .ref (ad i)), (1, .ref (ad ic)), (2, .ref (ad rl)), (3, .int (iI ((sm : Nat) : Int)))]) hx hb dX0_writeRow_9 hl (by decide) rfl (fun ls hl => ?_)
  refine lv_aload_n hx hb dX0_writeRow_11 rfl (lv_at hl 2 rfl) ?_
  refine n_get hx hb hts u_X1 hown hK hP (by omega) f_o rfl 0 (by decide) (nT_m wf_X0_36) rfl dX0_writeRow_12 ?_
  refine lv_istore (lv' := [(5, .int (iI ((cnt : Nat) : Int))), (4, .int (iI ((sm : Nat) : Int))), (0, .ref (ad i)), (1, .ref (ad ic)), (2, .ref (ad rl)), (3, .int (iI ((sm : Nat) : Int)))]) hx hb dX0_writeRow_15 hl (by decide) rfl (fun ls hl => ?_)
  have lp6 : ∀ (fu : Nat), ∀ (j : Nat), ∀ (w7 : Nat → va_E) (H : Heap) (locs : List Loc), ∀ (ls : Array Slot), cnt - j < fu → j ≤ cnt → (∀ j, j ≠ (i + 1) → w7 j = w j) → w7 i = .inr (0, [.ref (ad (i + 1)), .ref (ad (i + 2)), .ref (ad (i + 12)), .ref (ad (i + 13))]) → w7 (i + 2) = aR G 5 9 (fun k => some (ad (i + 3 + k))) → w7 (i + 1) = aI G 8 (wrR tb val fal lim cnt sm (fillF R0 0 8) j) → (∀ k, k < 9 → w7 (i + 3 + k) = aI G 2001 (tb k)) → w7 ic = .inr (1, [.int (iI ((cnt : Nat) : Int)), .ref (ad (ic + 1)), .ref (ad (ic + 2)), .ref (ad (ic + 3))]) → w7 (ic + 1) = aI G 8 (fun q => (val q : Int)) → w7 (ic + 2) = aI G 8 (fun q => (fal q : Int)) → w7 rl = aI G 8 (fun q => (lim q : Int)) → va_P G.1 vwCl (nL N ad w7) H → va_S (nA N ad s.heap.size) s.heap H locs → lv_has ls 9 [(0, .ref (ad i)), (1, .ref (ad ic)), (2, .ref (ad rl)), (3, .int (iI ((sm : Nat) : Int))), (4, .int (iI ((wrL tb val fal lim cnt sm j : Nat) : Int))), (5, .int (iI ((cnt - j : Nat) : Int)))] → W p l e ({ frames := 1, cells := 0, slots := 0, locals := 24 } : Room) s m ([.ref (ad i), .ref (ad ic), .ref (ad rl), .int (iI ((sm : Nat) : Int))] : List Value).toArray below meth cd H locs 0 0 Q (F0 m 17 ls []) := by
    intro fu
    induction fu with
    | zero =>
      intro j w7 H locs ls hfu hj hfr f_m f_g f_row f_rows f_o f_v f_f f_li hP hS hl
      exact absurd hfu (Nat.not_lt_zero _)
    | succ fu ih8 =>
      intro j w7 H locs ls hfu hj hfr f_m f_g f_row f_rows f_o f_v f_f f_li hP hS hl
      have hwl := wrL_le tb val fal lim cnt sm j
      refine lv_iload hx hb dX0_writeRow_17 (lv_at hl 5 rfl) ?_
      refine n_if_le (tgt := 118) hx hb dX0_writeRow_19 (by decide) (by omega) (fun hc19 => ?_) (fun hc19 => ?_)
      · skip
        refine n_vretP hQ hx hb hr hlocks hP hS dX0_writeRow_118 ?_
        refine ⟨hfr, f_row.trans (congrArg (fun x => aI G 8 (wrR tb val fal lim cnt sm (fillF R0 0 8) x)) (by omega))⟩
      · skip
        have hf8 := hfal j (by omega)
        have hv1 := hval1 (fal j) hf8
        have hdl : wrL tb val fal lim cnt sm j / val (fal j) ≤ wrL tb val fal lim cnt sm j := Nat.div_le_self _ _
        have hdz : (0 : Int) ≤ ((wrL tb val fal lim cnt sm j / val (fal j) : Nat) : Int) := Int.natCast_nonneg _
        refine lv_aload_n hx hb dX0_writeRow_22 rfl (lv_at hl 1 rfl) ?_
        refine n_get hx hb hts u_X1 hown hK hP (by omega) f_o rfl 2 (by decide) (nT_m wf_X0_42) rfl dX0_writeRow_23 ?_
        refine lv_aload_n hx hb dX0_writeRow_26 rfl (lv_at hl 1 rfl) ?_
        refine n_get hx hb hts u_X1 hown hK hP (by omega) f_o rfl 0 (by decide) (nT_m wf_X0_36) rfl dX0_writeRow_27 ?_
        refine lv_iload hx hb dX0_writeRow_30 (lv_at hl 5 rfl) ?_
        refine n_isub hx hb dX0_writeRow_32 ?_
        refine n_iald hx hb hK hP j (by omega) f_f (by omega) (by omega) (by decide) dX0_writeRow_33 ?_
        refine lv_istore (lv' := [(6, .int (iI (fal j : Int))), (0, .ref (ad i)), (1, .ref (ad ic)), (2, .ref (ad rl)), (3, .int (iI ((sm : Nat) : Int))), (4, .int (iI ((wrL tb val fal lim cnt sm j : Nat) : Int))), (5, .int (iI ((cnt - j : Nat) : Int)))]) hx hb dX0_writeRow_34 hl (by decide) rfl (fun ls hl => ?_)
        refine lv_aload_n hx hb dX0_writeRow_36 rfl (lv_at hl 2 rfl) ?_
        refine n_get hx hb hts u_X1 hown hK hP (by omega) f_o rfl 1 (by decide) (nT_m wf_X0_45) rfl dX0_writeRow_37 ?_
        refine lv_iload hx hb dX0_writeRow_40 (lv_at hl 0 rfl) ?_
        refine n_iald hx hb hK hP (fal j) (by omega) f_v (by omega) (by omega) (by decide) dX0_writeRow_42 ?_
        have ho9 := hval (fal j)
        refine lv_istore (lv' := [(7, .int (iI (val (fal j) : Int))), (6, .int (iI (fal j : Int))), (0, .ref (ad i)), (1, .ref (ad ic)), (2, .ref (ad rl)), (3, .int (iI ((sm : Nat) : Int))), (4, .int (iI ((wrL tb val fal lim cnt sm j : Nat) : Int))), (5, .int (iI ((cnt - j : Nat) : Int)))]) hx hb dX0_writeRow_43 hl (by decide) rfl (fun ls hl => ?_)
        refine lv_aload_n hx hb dX0_writeRow_45 rfl (lv_at hl 4 rfl) ?_
        refine lv_iload hx hb dX0_writeRow_46 (lv_at hl 1 rfl) ?_
        refine n_iald hx hb hK hP (fal j) (by omega) f_li (by omega) (by omega) (by decide) dX0_writeRow_48 ?_
        have ho10 := hlim (fal j)
        refine lv_iload hx hb dX0_writeRow_49 (lv_at hl 6 rfl) ?_
        refine lv_iload hx hb dX0_writeRow_51 (lv_at hl 0 rfl) ?_
        refine n_rdF (v := .int (iI (((wrL tb val fal lim cnt sm j) / (val (fal j)) : Nat) : Int))) (va_runSN (As := [.int (iI ((wrL tb val fal lim cnt sm j : Nat) : Int)), .int (iI (val (fal j) : Int))]) (rest := [.int (iI (lim (fal j) : Int))]) ⟨hx, hb, hml, hown, hts⟩ (c_X6_wholeTimes ((wrL tb val fal lim cnt sm j : Nat) : Int) (val (fal j) : Int) (by omega) (by omega)) ⟨va_cnB 2 hts (nT_N wc_X6_wholeTimes) rfl rfl rfl (hK.2 _ (List.mem_of_getElem? (i := 11) rfl)) (hts _ (nT_m wn_X6)) (by decide +kernel) ⟨Nat.le_of_ble_eq_true rfl, Nat.le_of_ble_eq_true rfl⟩, hts _ (nT_m wt_X6_wholeTimes), trivial⟩ preEq rfl rfl hl.1 rfl (lv_room (Nat.le_of_ble_eq_true rfl)) dX0_writeRow_53 ⟨Nat.zero_le _, Nat.zero_le _⟩) ?_
        refine n_mmin hx hb (hml.trans hl.1.symm) hown (hts _ (nT_m wl_X0_64)) (hts _ (nT_m wt_J9_min_7cf53)) (hts _ (nT_m wn_J9)) (hts _ (nT_m wc_J9_min_7cf53)) (Nat.le_of_ble_eq_true rfl) (Nat.le_of_ble_eq_true rfl) (Nat.zero_le _) (Nat.zero_le _) (by omega) (by omega) dX0_writeRow_56 ?_
        have lp11 : ∀ (n : Nat), ∀ (w12 : Nat → va_E) (H : Heap) (locs : List Loc), ∀ (ls : Array Slot), wrN tb val fal lim cnt (wrL tb val fal lim cnt sm j) j = n → n * val (fal j) ≤ wrL tb val fal lim cnt sm j → (∀ j, j ≠ (i + 1) → w12 j = w j) → w12 i = .inr (0, [.ref (ad (i + 1)), .ref (ad (i + 2)), .ref (ad (i + 12)), .ref (ad (i + 13))]) → w12 (i + 2) = aR G 5 9 (fun k => some (ad (i + 3 + k))) → w12 (i + 1) = aI G 8 (wrR tb val fal lim cnt sm (fillF R0 0 8) j) → (∀ k, k < 9 → w12 (i + 3 + k) = aI G 2001 (tb k)) → w12 ic = .inr (1, [.int (iI ((cnt : Nat) : Int)), .ref (ad (ic + 1)), .ref (ad (ic + 2)), .ref (ad (ic + 3))]) → w12 (ic + 1) = aI G 8 (fun q => (val q : Int)) → w12 (ic + 2) = aI G 8 (fun q => (fal q : Int)) → w12 rl = aI G 8 (fun q => (lim q : Int)) → va_P G.1 vwCl (nL N ad w12) H → va_S (nA N ad s.heap.size) s.heap H locs → lv_has ls 9 [(0, .ref (ad i)), (1, .ref (ad ic)), (2, .ref (ad rl)), (3, .int (iI ((sm : Nat) : Int))), (4, .int (iI ((wrL tb val fal lim cnt sm j : Nat) : Int))), (5, .int (iI ((cnt - j : Nat) : Int))), (6, .int (iI ((fal j : Nat) : Int))), (7, .int (iI ((val (fal j) : Nat) : Int))), (8, .int (iI ((n : Nat) : Int)))] → W p l e ({ frames := 1, cells := 0, slots := 0, locals := 24 } : Room) s m ([.ref (ad i), .ref (ad ic), .ref (ad rl), .int (iI ((sm : Nat) : Int))] : List Value).toArray below meth cd H locs 0 0 Q (F0 m 93 ls []) := by
          intro n w12 H locs ls hn9 hnv hfr f_m f_g f_row f_rows f_o f_v f_f f_li hP hS hl
          refine lv_aload_n hx hb dX0_writeRow_93 rfl (lv_at hl 0 rfl) ?_
          refine n_get hx hb hts u_X0 hown hK hP (by omega) f_m rfl 0 (by decide) (nT_m wf_X0_9) rfl dX0_writeRow_94 ?_
          refine lv_iload hx hb dX0_writeRow_97 (lv_at hl 6 rfl) ?_
          refine lv_iload hx hb dX0_writeRow_99 (lv_at hl 8 rfl) ?_
          refine n_iast hx hb hK hJ hP hS (fal j) (by omega) f_row (by omega) (by omega) (by decide) dX0_writeRow_101 (fun w14 H locs f_row hne15 hP hS => ?_)
          have f_m := (hne15 i (by omega)).trans f_m
          have f_g := (hne15 (i + 2) (by omega)).trans f_g
          have f_rows : ∀ k, k < 9 → w14 (i + 3 + k) = aI G 2001 (tb k) := fun k hk9 => (hne15 _ (by omega)).trans (f_rows _ hk9)
          have f_o := (hne15 ic (by omega)).trans f_o
          have f_v := (hne15 (ic + 1) (by omega)).trans f_v
          have f_f := (hne15 (ic + 2) (by omega)).trans f_f
          have f_li := (hne15 rl (by omega)).trans f_li
          have hfr : ∀ j, j ≠ (i + 1) → w14 j = w j := fun j a0 => (hne15 j (by omega)).trans (hfr j a0)
          refine lv_iload hx hb dX0_writeRow_102 (lv_at hl 4 rfl) ?_
          refine lv_iload hx hb dX0_writeRow_104 (lv_at hl 8 rfl) ?_
          refine lv_iload hx hb dX0_writeRow_106 (lv_at hl 7 rfl) ?_
          refine n_imul hx hb dX0_writeRow_108 ?_
          refine n_isub hx hb dX0_writeRow_109 ?_
          refine lv_istore (lv' := [(4, .int (iI (((wrL tb val fal lim cnt sm j : Nat) : Int) - (((n : Nat) : Int) * ((val (fal j) : Nat) : Int))))), (0, .ref (ad i)), (1, .ref (ad ic)), (2, .ref (ad rl)), (3, .int (iI ((sm : Nat) : Int))), (5, .int (iI ((cnt - j : Nat) : Int))), (6, .int (iI ((fal j : Nat) : Int))), (7, .int (iI ((val (fal j) : Nat) : Int))), (8, .int (iI ((n : Nat) : Int)))]) hx hb dX0_writeRow_110 hl (by decide) rfl (fun ls hl => ?_)
          refine lv_iinc (v := iI (((cnt - j : Nat) : Int) - 1)) (lv' := [(5, .int (iI (((cnt - j : Nat) : Int) - 1))), (4, .int (iI (((wrL tb val fal lim cnt sm j : Nat) : Int) - (((n : Nat) : Int) * ((val (fal j) : Nat) : Int))))), (0, .ref (ad i)), (1, .ref (ad ic)), (2, .ref (ad rl)), (3, .int (iI ((sm : Nat) : Int))), (6, .int (iI ((fal j : Nat) : Int))), (7, .int (iI ((val (fal j) : Nat) : Int))), (8, .int (iI ((n : Nat) : Int)))]) hx hb dX0_writeRow_112 hl (k := 5) rfl (by first | exact iI_add _ _ | exact (iI_add _ _).trans (congrArg iI (by omega))) (by decide) rfl (fun ls hl => ?_)
          refine lv_goto (tgt := 17) hx hb dX0_writeRow_115 (by decide) ?_
          exact ih8 (j + 1) _ _ _ _ (by omega) (by omega) hfr f_m f_g (by rw [← hn9] at f_row; exact f_row) f_rows f_o f_v f_f f_li hP hS (by first | exact lv_sub hl [2, 3, 4, 5, 1, 0] rfl | exact lv_cast (lv_sub (l' := [(0, .ref (ad i)), (1, .ref (ad ic)), (2, .ref (ad rl)), (3, .int (iI ((sm : Nat) : Int))), (4, .int (iI (((wrL tb val fal lim cnt sm j : Nat) : Int) - (((n : Nat) : Int) * ((val (fal j) : Nat) : Int))))), (5, .int (iI (((cnt - j : Nat) : Int) - 1)))]) hl [2, 3, 4, 5, 1, 0] rfl) (lc_s (lc_s (lc_s (lc_s (lc_i (show ((((wrL tb val fal lim cnt sm j : Nat) : Int) - (((n : Nat) : Int) * ((val (fal j) : Nat) : Int))) : Int) = ((wrL tb val fal lim cnt sm (j + 1) : Nat) : Int) by rw [← hn9] at hnv ⊢; exact (Int.natCast_sub hnv).symm) (lc_i (show ((((cnt - j : Nat) : Int) - 1) : Int) = ((cnt - (j + 1) : Nat) : Int) by omega) rfl)))))))
        refine lv_istore (lv' := [(8, .int (iI ((min (lim (fal j)) (wrL tb val fal lim cnt sm j / val (fal j)) : Nat) : Int))), (7, .int (iI (val (fal j) : Int))), (6, .int (iI (fal j : Int))), (0, .ref (ad i)), (1, .ref (ad ic)), (2, .ref (ad rl)), (3, .int (iI ((sm : Nat) : Int))), (4, .int (iI ((wrL tb val fal lim cnt sm j : Nat) : Int))), (5, .int (iI ((cnt - j : Nat) : Int)))]) hx hb dX0_writeRow_59 hl (by decide) (by rw [← min_cast]; rfl) (fun ls hl => ?_)
        have lp16 : ∀ (fu : Nat), ∀ (n : Nat), ∀ (w17 : Nat → va_E) (H : Heap) (locs : List Loc), ∀ (ls : Array Slot), n < fu → n ≤ wrL tb val fal lim cnt sm j / val (fal j) → wrN tb val fal lim cnt (wrL tb val fal lim cnt sm j) j = dn (wrP tb (cnt - j) (val (fal j)) (wrL tb val fal lim cnt sm j)) n → (∀ j, j ≠ (i + 1) → w17 j = w j) → w17 i = .inr (0, [.ref (ad (i + 1)), .ref (ad (i + 2)), .ref (ad (i + 12)), .ref (ad (i + 13))]) → w17 (i + 2) = aR G 5 9 (fun k => some (ad (i + 3 + k))) → w17 (i + 1) = aI G 8 (wrR tb val fal lim cnt sm (fillF R0 0 8) j) → (∀ k, k < 9 → w17 (i + 3 + k) = aI G 2001 (tb k)) → w17 ic = .inr (1, [.int (iI ((cnt : Nat) : Int)), .ref (ad (ic + 1)), .ref (ad (ic + 2)), .ref (ad (ic + 3))]) → w17 (ic + 1) = aI G 8 (fun q => (val q : Int)) → w17 (ic + 2) = aI G 8 (fun q => (fal q : Int)) → w17 rl = aI G 8 (fun q => (lim q : Int)) → va_P G.1 vwCl (nL N ad w17) H → va_S (nA N ad s.heap.size) s.heap H locs → lv_has ls 9 [(0, .ref (ad i)), (1, .ref (ad ic)), (2, .ref (ad rl)), (3, .int (iI ((sm : Nat) : Int))), (4, .int (iI ((wrL tb val fal lim cnt sm j : Nat) : Int))), (5, .int (iI ((cnt - j : Nat) : Int))), (6, .int (iI ((fal j : Nat) : Int))), (7, .int (iI ((val (fal j) : Nat) : Int))), (8, .int (iI ((n : Nat) : Int)))] → W p l e ({ frames := 1, cells := 0, slots := 0, locals := 24 } : Room) s m ([.ref (ad i), .ref (ad ic), .ref (ad rl), .int (iI ((sm : Nat) : Int))] : List Value).toArray below meth cd H locs 0 0 Q (F0 m 61 ls []) := by
          intro fu
          induction fu with
          | zero =>
            intro n w17 H locs ls hfu hn hdn hfr f_m f_g f_row f_rows f_o f_v f_f f_li hP hS hl
            exact absurd hfu (Nat.not_lt_zero _)
          | succ fu ih18 =>
            intro n w17 H locs ls hfu hn hdn hfr f_m f_g f_row f_rows f_o f_v f_f f_li hP hS hl
            have hnv : n * val (fal j) ≤ wrL tb val fal lim cnt sm j := Nat.le_trans (Nat.mul_le_mul_right _ hn) (Nat.div_mul_le_self _ _)
            refine lv_iload hx hb dX0_writeRow_61 (lv_at hl 8 rfl) ?_
            refine n_if_le (tgt := 93) hx hb dX0_writeRow_63 (by decide) (by omega) (fun hc63 => ?_) (fun hc63 => ?_)
            · skip
              exact lp11 n _ _ _ _ (hdn.trans (by rw [show n = 0 by omega]; rfl)) hnv hfr f_m f_g f_row f_rows f_o f_v f_f f_li hP hS (lv_sub hl [0, 1, 2, 3, 4, 5, 6, 7, 8] rfl)
            · skip
              refine lv_aload_n hx hb dX0_writeRow_66 rfl (lv_at hl 0 rfl) ?_
              refine lv_iload hx hb dX0_writeRow_67 (lv_at hl 5 rfl) ?_
              refine lv_iload hx hb dX0_writeRow_69 (lv_at hl 4 rfl) ?_
              refine lv_iload hx hb dX0_writeRow_71 (lv_at hl 4 rfl) ?_
              refine lv_iload hx hb dX0_writeRow_73 (lv_at hl 8 rfl) ?_
              refine lv_iload hx hb dX0_writeRow_75 (lv_at hl 7 rfl) ?_
              refine n_imul hx hb dX0_writeRow_77 ?_
              refine n_isub hx hb dX0_writeRow_78 ?_
              refine lv_iload hx hb dX0_writeRow_79 (lv_at hl 8 rfl) ?_
              have f_r0 := f_rows (cnt - j - 1) (by omega)
              have f_r1 := f_rows (cnt - j) (by omega)
              have hr0 := hrg (cnt - j - 1) (by omega) (wrL tb val fal lim cnt sm j - n * val (fal j)) (by omega)
              have hr1 := hrg (cnt - j) (by omega) (wrL tb val fal lim cnt sm j) (by omega)
              have hn2 : n ≤ 2000 := Nat.le_trans hn (Nat.le_trans (Nat.div_le_self _ _) (by omega))
              rw [show ((wrL tb val fal lim cnt sm j : Nat) : Int) - ((n : Nat) : Int) * ((val (fal j) : Nat) : Int) = ((wrL tb val fal lim cnt sm j - n * val (fal j) : Nat) : Int) from (Int.natCast_sub hnv).symm]
              refine n_rdF (va_runV (As := [.int (iI ((cnt - j : Nat) : Int)), .int (iI ((wrL tb val fal lim cnt sm j : Nat) : Int)), .int (iI ((wrL tb val fal lim cnt sm j - n * val (fal j) : Nat) : Int)), .int (iI ((n : Nat) : Int))]) (rest := []) ⟨hx, hb, hml, hown, hts⟩ (c_X0_leadsOn i (cnt - j) (wrL tb val fal lim cnt sm j) (wrL tb val fal lim cnt sm j - n * val (fal j)) n (tb (cnt - j - 1)) (tb (cnt - j)) (by omega) (by omega) (by omega) (by omega) (by omega) (by omega) f_m f_g f_r0 f_r1) (cwV 4 hts (nT_V wl_X0_69 wi_X0_leadsOn ws_X0_leadsOn wn_X0 wc_X0_leadsOn) rfl rfl rfl (by decide +kernel) ⟨Nat.le_of_ble_eq_true rfl, Nat.le_of_ble_eq_true rfl⟩) (nB.preV hK hI hP (by omega) f_m rfl rfl) rfl rfl hl.1 rfl (lv_room (Nat.le_of_ble_eq_true rfl)) dX0_writeRow_81 ⟨Nat.zero_le _, Nat.zero_le _⟩) ?_
              refine n_if_neB (tgt := 93) hx hb dX0_writeRow_84 (by decide) (fun hc84 => ?_) (fun hc84 => ?_)
              · skip
                have hn0 : dn (wrP tb (cnt - j) (val (fal j)) (wrL tb val fal lim cnt sm j)) n = n := by
                  obtain ⟨n1, rfl⟩ : ∃ n1, n = n1 + 1 := ⟨n - 1, by omega⟩
                  exact dn_y (decide_eq_true hc84)
                exact lp11 n _ _ _ _ (hdn.trans hn0) hnv hfr f_m f_g f_row f_rows f_o f_v f_f f_li hP hS (lv_sub hl [0, 1, 2, 3, 4, 5, 6, 7, 8] rfl)
              · skip
                refine lv_iinc (v := iI (((n : Nat) : Int) - 1)) (lv' := [(8, .int (iI (((n : Nat) : Int) - 1))), (0, .ref (ad i)), (1, .ref (ad ic)), (2, .ref (ad rl)), (3, .int (iI ((sm : Nat) : Int))), (4, .int (iI ((wrL tb val fal lim cnt sm j : Nat) : Int))), (5, .int (iI ((cnt - j : Nat) : Int))), (6, .int (iI ((fal j : Nat) : Int))), (7, .int (iI ((val (fal j) : Nat) : Int)))]) hx hb dX0_writeRow_87 hl (k := 8) rfl (by first | exact iI_add _ _ | exact (iI_add _ _).trans (congrArg iI (by omega))) (by decide) rfl (fun ls hl => ?_)
                refine lv_goto (tgt := 61) hx hb dX0_writeRow_90 (by decide) ?_
                obtain ⟨n1, rfl⟩ : ∃ n1, n = n1 + 1 := ⟨n - 1, by omega⟩
                exact ih18 n1 _ _ _ _ (by omega) (by omega) (hdn.trans (dn_n (decide_eq_false hc84))) hfr f_m f_g f_row f_rows f_o f_v f_f f_li hP hS (by first | exact lv_sub hl [1, 2, 3, 4, 5, 6, 7, 8, 0] rfl | exact lv_cast (lv_sub (l' := [(0, .ref (ad i)), (1, .ref (ad ic)), (2, .ref (ad rl)), (3, .int (iI ((sm : Nat) : Int))), (4, .int (iI ((wrL tb val fal lim cnt sm j : Nat) : Int))), (5, .int (iI ((cnt - j : Nat) : Int))), (6, .int (iI ((fal j : Nat) : Int))), (7, .int (iI ((val (fal j) : Nat) : Int))), (8, .int (iI ((((n1 + 1) : Nat) : Int) - 1)))]) hl [1, 2, 3, 4, 5, 6, 7, 8, 0] rfl) (lc_s (lc_s (lc_s (lc_s (lc_s (lc_s (lc_s (lc_s (lc_i (show (((((n1 + 1) : Nat) : Int) - 1) : Int) = ((n1 : Nat) : Int) by omega) rfl))))))))))
        exact lp16 ((min (lim (fal j)) (wrL tb val fal lim cnt sm j / val (fal j))) + 1) (min (lim (fal j)) (wrL tb val fal lim cnt sm j / val (fal j))) _ _ _ _ (Nat.lt_succ_self _) (Nat.min_le_right _ _) rfl hfr f_m f_g f_row f_rows f_o f_v f_f f_li hP hS (by first | exact lv_sub hl [3, 4, 5, 6, 7, 8, 2, 1, 0] rfl | exact lv_cast (lv_sub (l' := [(0, .ref (ad i)), (1, .ref (ad ic)), (2, .ref (ad rl)), (3, .int (iI ((sm : Nat) : Int))), (4, .int (iI ((wrL tb val fal lim cnt sm j : Nat) : Int))), (5, .int (iI ((cnt - j : Nat) : Int))), (6, .int (iI (fal j : Int))), (7, .int (iI (val (fal j) : Int))), (8, .int (iI ((min (lim (fal j)) (wrL tb val fal lim cnt sm j / val (fal j)) : Nat) : Int)))]) hl [3, 4, 5, 6, 7, 8, 2, 1, 0] rfl) (lc_s (lc_s (lc_s (lc_s (lc_s (lc_s (lc_i (show ((fal j : Int) : Int) = ((fal j : Nat) : Int) by omega) (lc_i (show ((val (fal j) : Int) : Int) = ((val (fal j) : Nat) : Int) by omega) (lc_i (show (((min (lim (fal j)) (wrL tb val fal lim cnt sm j / val (fal j)) : Nat) : Int) : Int) = (((min (lim (fal j)) (wrL tb val fal lim cnt sm j / val (fal j))) : Nat) : Int) by omega) rfl))))))))))
  exact lp6 (cnt - 0 + 1) 0 _ _ _ _ (Nat.lt_succ_self _) (by omega) hfr f_m f_g f_row f_rows f_o f_v f_f f_li hP hS (by first | exact lv_sub hl [2, 3, 4, 5, 1, 0] rfl | exact lv_cast (lv_sub (l' := [(0, .ref (ad i)), (1, .ref (ad ic)), (2, .ref (ad rl)), (3, .int (iI ((sm : Nat) : Int))), (4, .int (iI ((sm : Nat) : Int))), (5, .int (iI ((cnt : Nat) : Int)))]) hl [2, 3, 4, 5, 1, 0] rfl) (lc_s (lc_s (lc_s (lc_s (lc_i (show (((sm : Nat) : Int) : Int) = ((wrL tb val fal lim cnt sm 0 : Nat) : Int) by omega) (lc_i (show (((cnt : Nat) : Int) : Int) = ((cnt - 0 : Nat) : Int) by omega) rfl)))))))
