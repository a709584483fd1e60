/-! ===== making cells: the world's addresses are ab, ab + 1, .. in the order in which they are made ===== -/
def nad (ab : Nat) : Nat → Nat := fun i => ab + i
def nF (ab : Nat) : Nat → Prop := fun q => ab ≤ q
theorem nad_J {ab : Nat} {ad : Nat → Nat} (hE : ad = nad ab) (N : Nat) : nJ (nF ab) N ad := by
  subst hE
  exact ⟨fun i j _ _ h => Nat.add_left_cancel h, fun i _ => Nat.le_add_right ab i⟩
theorem nad_I {ab : Nat} {ad : Nat → Nat} (hE : ad = nad ab) (N : Nat) : nInj N ad := (nad_J hE N).1
theorem nL_push (N : Nat) (ad : Nat → Nat) (w : Nat → va_E) (e : va_E) : nL N ad w ++ [(ad N, e)] = nL (N + 1) ad (va_up w N e) := by
  unfold nL
  rw [List.range_succ, List.map_append, List.map_singleton, va_up_self]
  congr 1
  refine List.map_congr_left (fun i hi => ?_)
  rw [va_up_ne _ _ (Nat.ne_of_lt (List.mem_range.mp hi))]
def aoI (U : State) : Prop := (Cond.arrayOver (.array .int)).before #[] U = true
theorem aoI.moved {u U : State} (hvm : u.vm.Alike U.vm) (h : aoI u) : aoI U := by
  obtain ⟨comp, c, k, h1, h2, h3, h4, h5⟩ := arrayOverA_spec h
  obtain ⟨k', hk', he⟩ := hvm.2.2 _ _ h3
  have hi : (U.vm.classes.findIdx? fun (x : Class) => match x.kind with | .array component _ => component == comp | _ => false) = some c := by
    have e1 := va_idx_bare u.vm comp
    have e2 := va_idx_bare U.vm comp
    have e3 : u.vm.bare = U.vm.bare := by first | exact hvm.bare_eq | exact hvm.bare_eq.symm
    rw [e3] at e1
    exact (e2.symm.trans e1).trans h2
  have hkind : k'.kind = .array comp (.array .int) := by rw [he]; exact h4
  have f1 : U.vm.findClass (FieldType.array .int).toString = some comp := by rw [hvm.findClass]; exact h1
  have f2 : U.vm.findClass ("[" ++ (FieldType.array .int).toString) = some c := by rw [hvm.findClass]; exact h5
  unfold aoI Cond.before Cond.holds
  simp only [Cond.value]
  rw [f1, Option.bind_some]
  refine (congrArg (fun o : Option Nat => (o.bind (fun c => (U.vm.classes[c]?).map fun (k : Class) => match k.kind with | .array _ ty => decide (ty = FieldType.array .int) && decide (U.vm.findClass ("[" ++ (FieldType.array .int).toString) = some c) | _ => false) == some true)) hi).trans ?_
  simp [hk', hkind, f2]
def nO (U : State) : Prop := va_AO "NewCoins$Till" U ∧ va_AO "NewCoins$Land" U ∧ aoI U
theorem nO.moved {u U : State} (hvm : u.vm.Alike U.vm) (h : nO u) : nO U := ⟨va_AO.moved hvm h.1, va_AO.moved hvm h.2.1, aoI.moved hvm h.2.2⟩
def nBo (G : nG) (ab N : Nat) (ad : Nat → Nat) (w : Nat → va_E) (U : State) : Prop := nB G N ad w (ab + N) U ∧ nO U
theorem nBo.blind {G : nG} {ab N : Nat} {ad : Nat → Nat} {w : Nat → va_E} {av : List Value} : FrameBlind (va_Pc av (nBo G ab N ad w)) := fun a U g mk q => ⟨q.1, ⟨q.2.1.1, q.2.1.2.1, q.2.1.2.2.1.call, q.2.1.2.2.2⟩, nO.moved (u := U) (U := U.calling g mk a) (Vm.Alike.refl U.vm) q.2.2⟩
theorem nBo.pre {G : nG} {ab N : Nat} {ad : Nat → Nat} {w : Nat → va_E} {s : State} {H : Heap} {As : List Value} (hE : ad = nad ab) (hK : nK G s) (hO : nO s) (hH : H.size = ab + N) (hP : va_P G.1 vwCl (nL N ad w) H) : PreS s H (va_Pc As (nBo G ab N ad w)) As := ⟨nBo.blind, fun U hU hW => ⟨rfl, ⟨by rw [hU]; exact hH, by rw [hU]; exact hP, hK.warm hW, nad_I hE N⟩, hO.moved hW.alike⟩⟩
/-- the end of a constructor that makes K cells -/
def nPn (G : nG) (ab N K : Nat) (ad : Nat → Nat) (post : (Nat → va_E) → Prop) : Array Value → State → Outcome → State → Prop := fun _ st oc t => (∃ (u : Nat → va_E), oc = .returned none ∧ post u ∧ va_P G.1 vwCl (nL (N + K) ad u) t.heap) ∧ va_F (nF ab) st t
theorem n_entN {l : Launch} {y : MethodName} {ws ws' : List Cond} {rm : Room} {av : List Value} {G : nG} {ab N : Nat} {ad : Nat → Nat} {w : Nat → va_E} {Qc : Array Value → State → Outcome → State → Prop} {mc ms : Nat} {free : Addr → Prop} {cc : ByteArray} {maxL : Nat} {ret : Option FieldType}
    (hy : plainName y.cls = true) (hw : ws = Cond.code y cc maxL ret :: ws') (hlen : (lg_sl av).length ≤ maxL)
    (body : ∀ (p : Program) (e : Env) (s : State) (m : MethodId) (below : List Frame) (meth : Method) (c : Code), p.tables.exec = Jvm.exec → c.code = cc → meth.sig.returnType = ret → c.maxLocals = maxL → meth.locks = false → (∀ w ∈ ws, w.before av.toArray s = true) → s.vm.findClass y.cls = some m.cls → meth.name = y.name → s.heap.size = ab + N → va_P G.1 vwCl (nL N ad w) s.heap → nK G s → nO s → ∀ Q : State → Prop, Q = MQ below Qc av.toArray s mc ms free → ∀ ls : Array Slot, lv_has ls maxL (lv_args 0 av) → W p l e rm s m av.toArray below meth c s.heap [] 0 0 Q (F0 m 0 ls [])) :
    Met l y ws rm (va_Pc av (nBo G ab N ad w)) Qc mc ms free := by
  refine Met.ofW (cc := cc) (maxL := maxL) (ret := ret) hy hw ?_
  intro p e s m args below meth c s₁ B hml hv
  obtain ⟨rfl, ⟨hsz, hP, hK, hI⟩, hO⟩ := hv
  rw [lg_entry_eq]
  exact body p e s m below meth c B.exec B.bytes B.returns hml B.notSynchronized (atoms_spec (ws := ws) B.pre) (findClass_of_methodNamed B.named) (name_of_methodNamed B.named B.method).1 hsz hP hK hO _ rfl _ (lv_entry av hlen)
section NN
variable {p : Program} {l : Launch} {e : Env} {R : Room} {s : State} {m : MethodId} {args : Array Value} {below : List Frame} {meth : Method} {c : Code} {H : Heap} {locs : List Loc} {cells slots : Nat} {Q : State → Prop}
variable {cc : ByteArray} {pc : Nat} {ls : Array Slot} {rest : List Value} {G : nG} {N N0 ab : Nat} {ad : Nat → Nat} {w : Nat → va_E}
theorem n_up {T : State} (hT : T.heap = H) (X : Stand p l e R s m args below meth c T locs cells slots) : H.size ≤ s.heap.size + cells := by
  rw [← hT]
  exact X.same.2.2.1
theorem n_sz {g : JFrame} (hE : ad = nad ab) (hs0 : s.heap.size = ab + N0) (hc : N0 + cells = N) (h0 : 0 < N) (hP : va_P G.1 vwCl (nL N ad w) H) (kk : H.size = ab + N → W p l e R s m args below meth c H locs cells slots Q g) : W p l e R s m args below meth c H locs cells slots Q g := fun T hT X => kk (by
  have h1 := n_up hT X
  have h2 : ad (N - 1) < H.size := (hP (N - 1) _ (nL_get (by omega) rfl)).lt
  subst hE
  have h3 : nad ab (N - 1) = ab + (N - 1) := rfl
  omega) T hT X
/-- the address of the cell made last -/
theorem n_lastA {T : State} {e1 : va_E} {H1 : Heap} {q : Nat} (hE : ad = nad ab) (hs0 : s.heap.size = ab + N0) (hc : N0 + cells = N) (hP1 : va_P G.1 vwCl (nL N ad w ++ [(q, e1)]) H1) (hD1 : va_D (nF ab) (nL N ad w ++ [(q, e1)])) (hT : T.heap = H1) (X : Stand p l e R s m args below meth c T locs (cells + 1) slots) : q = ad N := by
  have hat : (nL N ad w ++ [(q, e1)])[N]? = some (q, e1) := by
    rw [List.getElem?_append_right (by rw [nL_len]; exact Nat.le_refl _), nL_len, Nat.sub_self]
    rfl
  have h1 := n_up hT X
  have h2 : q < H1.size := (hP1 N _ hat).lt
  have h3 : ab ≤ q := hD1.2 N _ hat
  subst hE
  show q = ab + N
  rcases Nat.lt_or_ge q (ab + N) with h | h
  · have hi : (nL N (nad ab) w ++ [(q, e1)])[q - ab]? = some (nad ab (q - ab), w (q - ab)) := by
      rw [List.getElem?_append_left (by rw [nL_len]; omega)]
      exact nL_get (by omega) rfl
    have := hD1.1 (q - ab) N _ _ hi hat (show nad ab (q - ab) = q by show ab + (q - ab) = q; omega)
    omega
  · omega
theorem n_new (hE : ad = nad ab) (hx : p.tables.exec = Jvm.exec) (hb : c.code = cc) {own C : String} {T : u_T} {M ci index : Nat} {Ts : List Cond} (hts : ∀ w ∈ Ts, w.before args s = true) (hin : ∀ w ∈ u_ws C T M, w ∈ Ts) (ty : Nat → FieldType) (hty : ∀ k, k < M → parseFieldDescriptor (T k).2.2.1 = some (ty k)) (hown : s.vm.findClass own = some m.cls) (hcl : Cond.classLink own index C ∈ Ts) (hinst : Cond.instantiable C M ∈ Ts) (hini : Cond.initialized C ∈ Ts) (hK : nK G s) (hs0 : s.heap.size = ab + N0) (hcN : N0 + cells = N) (hP : va_P G.1 vwCl (nL N ad w) H) (hS : va_S (nF ab) s.heap H locs) (hc : vwCl[ci]? = some (C, T, M)) {fs : List Value} (hfs : ∀ j, j < M → defaultValue (ty j) = vp_V fs j) (hcells : cells + 1 ≤ R.cells) (hslots : slots + M ≤ R.slots) (hdg : decode cc pc = .ok (.new index, 3)) (kk : ∀ (w1 : Nat → va_E) (H1 : Heap), w1 N = .inr (ci, fs) → (∀ j, j ≠ N → w1 j = w j) → va_P G.1 vwCl (nL (N + 1) ad w1) H1 → va_S (nF ab) s.heap H1 locs → W p l e R s m args below meth c H1 locs (cells + 1) (slots + M) Q (F0 m (pc + 3) ls (.ref (ad N) :: rest))) : W p l e R s m args below meth c H locs cells slots Q (F0 m pc ls rest) := by
  refine va_new hx hb hts hin ty hty hown (hts _ hcl) (hts _ hinst) (hts _ hini) hK.1 hP ((nad_J hE N).D w) hS (fun q hq => by show ab ≤ q; omega) hc hfs hcells hslots hdg (fun q H1 hP1 hD1 hS1 => ?_)
  intro T0 hT X
  have e := n_lastA hE hs0 hcN hP1 hD1 hT X
  subst e
  rw [nL_push] at hP1
  exact kk _ H1 (va_up_self _ _ _) (fun j hj => va_up_ne _ _ hj) hP1 hS1 T0 hT X
theorem n_newa (hE : ad = nad ab) (hx : p.tables.exec = Jvm.exec) (hb : c.code = cc) {atype : ArrayType} (harr : (Cond.arrayClass (newarray.typeOf atype)).before args s = true) {ty : FieldType} (hty : newarray.typeOf atype = ty) (hob : ∀ C, ty ≠ .object C) (tq : Nat) (htq : (nTy G.2)[tq]? = some (G.2 tq, ty)) (hK : nK G s) (hs0 : s.heap.size = ab + N0) (hcN : N0 + cells = N) (hP : va_P G.1 vwCl (nL N ad w) H) (hS : va_S (nF ab) s.heap H locs) {n : Nat} {z : Int} (hz : z = (n : Int)) (hn : n < 2147483648) {av : (Nat → Int32) ⊕ (Nat → Int64) ⊕ (Nat → UInt32) ⊕ (Nat → UInt64) ⊕ (Nat → Option Nat)} (ha : ∀ cA : ClassId, vp_cell cA (n, av) = arrV cA n (fun _ => defaultValue ty)) (hbytes : n * componentBytes ty ≤ 536870912) (hcells : cells + 1 ≤ R.cells) (hslots : slots + n ≤ R.slots) (hdg : decode cc pc = .ok (.newarray atype, 2)) (kk : ∀ (w1 : Nat → va_E) (H1 : Heap), w1 N = .inl (G.2 tq, n, av) → (∀ j, j ≠ N → w1 j = w j) → va_P G.1 vwCl (nL (N + 1) ad w1) H1 → va_S (nF ab) s.heap H1 locs → W p l e R s m args below meth c H1 locs (cells + 1) (slots + n) Q (F0 m (pc + 2) ls (.ref (ad N) :: rest))) : W p l e R s m args below meth c H locs cells slots Q (F0 m pc ls (.int (iI z) :: rest)) := by
  have hn0 : ¬ iI z < 0 := fun q => by
    have := (iI_lt (a := z) (b := 0) (by omega) (by decide)).mp q
    omega
  have hcl : (iI z).toNatClampNeg = n := by
    rw [hz]
    exact iI_cl hn
  refine va_newa hx hb harr hty hK.1 hP ((nad_J hE N).D w) hS (fun q hq => by show ab ≤ q; omega) (a0 := (n, av)) ha hn0 hcl hbytes hcells hslots hdg (fun q cA H1 hK1 hP1 hD1 hS1 => ?_)
  intro T0 hT X
  have e := n_lastA hE hs0 hcN hP1 hD1 hT X
  subst e
  have hcA : cA = G.2 tq := by
    have h1 : va_RA s cA ty := (hK1.2 (nTy G.2).length (cA, ty) (by rw [List.getElem?_append_right (Nat.le_refl _), Nat.sub_self]; rfl)).2
    have h2 : va_RA s (G.2 tq) ty := (hK.1.2 tq _ htq).2
    cases ty with
    | object C => exact absurd rfl (hob C)
    | _ => exact Option.some.inj (h1.symm.trans h2)
  subst hcA
  rw [nL_push] at hP1
  exact kk _ H1 (va_up_self _ _ _) (fun j hj => va_up_ne _ _ hj) hP1 hS1 T0 hT X
theorem n_newq (hE : ad = nad ab) (hx : p.tables.exec = Jvm.exec) (hb : c.code = cc) {own C : String} {index : Nat} (hown : s.vm.findClass own = some m.cls) (hclink : (Cond.classLink own index C).before args s = true) (hover : va_AO C s) (tq : Nat) (htq : (nTy G.2)[tq]? = some (G.2 tq, .object C)) (hK : nK G s) (hs0 : s.heap.size = ab + N0) (hcN : N0 + cells = N) (hP : va_P G.1 vwCl (nL N ad w) H) (hS : va_S (nF ab) s.heap H locs) {n : Nat} {z : Int} (hz : z = (n : Int)) (hn : n < 2147483648) (hbytes : n * 4 ≤ 536870912) (hcells : cells + 1 ≤ R.cells) (hslots : slots + n ≤ R.slots) (hdg : decode cc pc = .ok (.anewarray index, 3)) (kk : ∀ (w1 : Nat → va_E) (H1 : Heap), w1 N = aR G tq n (fun _ => none) → (∀ j, j ≠ N → w1 j = w j) → va_P G.1 vwCl (nL (N + 1) ad w1) H1 → va_S (nF ab) s.heap H1 locs → W p l e R s m args below meth c H1 locs (cells + 1) (slots + n) Q (F0 m (pc + 3) ls (.ref (ad N) :: rest))) : W p l e R s m args below meth c H locs cells slots Q (F0 m pc ls (.int (iI z) :: rest)) := by
  have hn0 : ¬ iI z < 0 := fun q => by
    have := (iI_lt (a := z) (b := 0) (by omega) (by decide)).mp q
    omega
  have hcl : (iI z).toNatClampNeg = n := by
    rw [hz]
    exact iI_cl hn
  refine va_newq hx hb hown hclink hover hK.1 hP ((nad_J hE N).D w) hS (fun q hq => by show ab ≤ q; omega) hn0 hcl hbytes hcells hslots hdg (fun q cA H1 hK1 hP1 hD1 hS1 => ?_)
  intro T0 hT X
  have e := n_lastA hE hs0 hcN hP1 hD1 hT X
  subst e
  have hcA : cA = G.2 tq := by
    obtain ⟨kA, comp, -, -, -, h1⟩ : va_RA s cA (.object C) := (hK1.2 (nTy G.2).length (cA, .object C) (by rw [List.getElem?_append_right (Nat.le_refl _), Nat.sub_self]; rfl)).2
    obtain ⟨kA', comp', -, -, -, h2⟩ : va_RA s (G.2 tq) (.object C) := (hK.1.2 tq _ htq).2
    exact Option.some.inj (h1.symm.trans h2)
  subst hcA
  rw [nL_push] at hP1
  exact kk _ H1 (va_up_self _ _ _) (fun j hj => va_up_ne _ _ hj) hP1 hS1 T0 hT X
/-- a reference into an array of objects -/
theorem n_aast {A : Nat → Prop} {H0 : Heap} (hx : p.tables.exec = Jvm.exec) (hb : c.code = cc) (hK : nK G s) (hJ : nJ A N ad) (hP : va_P G.1 vwCl (nL N ad w) H) (hS : va_S A H0 H locs) {i i2 n tq ci : Nat} {r : vw_C} {f : Nat → Option Nat} {vs : List Value} {z : Int} (k : Nat) (hi : i < N) (he : w i = aR G tq n f) (htq : (nTy G.2)[tq]? = some (G.2 tq, .object r.1)) (hi2 : i2 < N) (he2 : w i2 = .inr (ci, vs)) (hc : vwCl[ci]? = some r) (hz : z = (k : Int)) (hk : k < n) (hn : n < 2147483648) (hdg : decode cc pc = .ok (.aastore, 1)) (kk : ∀ (w1 : Nat → va_E) (H1 : Heap) (locs1 : List Loc), w1 i = aR G tq n (va_up f k (some (ad i2))) → (∀ j, j ≠ i → w1 j = w j) → va_P G.1 vwCl (nL N ad w1) H1 → va_S A H0 H1 locs1 → W p l e R s m args below meth c H1 locs1 cells slots Q (F0 m (pc + 1) ls rest)) : W p l e R s m args below meth c H locs cells slots Q (F0 m pc ls (.ref (ad i2) :: .int (iI z) :: .ref (ad i) :: rest)) := by
  refine va_astq hx hb hK.1 hP (hJ.D w) hS i tq i2 ci (nL_get hi he) htq (nL_get hi2 he2) hc (iI_in hz hk hn) hdg (fun H1 locs1 hP1 _ hS1 => ?_)
  subst hz
  rw [nL_set, iI_cl (by omega)] at hP1
  exact kk _ H1 locs1 (va_up_self _ _ _) (fun j hj => va_up_ne _ _ hj) hP1 hS1
/-- a constructor is called -/
theorem n_cN {K S : Nat} {post : (Nat → va_E) → Prop} {a : Array Value} {st0 : List Value} (hr : va_Run p l e R s m args below meth c H locs cells slots K S (F0 m pc ls st0) rest (nPn G ab N K ad post a) (nF ab)) (hS : va_S (nF ab) s.heap H locs)
    (kk : ∀ (w1 : Nat → va_E) (H1 : Heap) (locs1 : List Loc), post w1 → va_P G.1 vwCl (nL (N + K) ad w1) H1 → va_S (nF ab) s.heap H1 locs1 → W p l e R s m args below meth c H1 locs1 (cells + K) (slots + S) Q (F0 m (pc + 3) ls rest)) : W p l e R s m args below meth c H locs cells slots Q (F0 m pc ls st0) := by
  intro T hT X
  obtain ⟨v, st₀, t, T', L, h0, X', hL, e1, e2, ⟨⟨u, hv, hp, hb⟩, hz, hk⟩, st⟩ := hr T hT X
  cases hv
  rw [h0] at hz hk
  obtain ⟨t2, a1, b1⟩ := kk u T'.heap (locs ++ L) hp (by rw [e1]; exact hb)
    ⟨Nat.le_trans hS.1 (by rw [e1]; exact hz), fun q h1 h2 => by rw [e1, hk q (Nat.lt_of_lt_of_le h1 hS.1) h2]; exact hS.2.1 q h1 h2, fun q hq => by
      rcases List.mem_append.mp hq with h | h
      · exact hS.2.2 q h
      · exact hL q h⟩ T' rfl X'
  exact ⟨t2, st t2 a1, b1⟩
/-- a method that makes nothing is called by a constructor -/
theorem n_cVF {post : (Nat → va_E) → Prop} {a : Array Value} {st0 : List Value} (hE : ad = nad ab) (hH : H.size = ab + N) (hr : va_Run p l e R s m args below meth c H locs cells slots 0 0 (F0 m pc ls st0) rest (nPv G N ad H.size post a) (nA N ad H.size)) (hS : va_S (nF ab) s.heap H locs)
    (kk : ∀ (w1 : Nat → va_E) (H1 : Heap) (locs1 : List Loc), post w1 → va_P G.1 vwCl (nL N ad w1) H1 → va_S (nF ab) s.heap H1 locs1 → W p l e R s m args below meth c H1 locs1 cells slots Q (F0 m (pc + 3) ls rest)) : W p l e R s m args below meth c H locs cells slots Q (F0 m pc ls st0) := by
  have hA : ∀ q, nA N ad H.size q → nF ab q := fun q hq => by
    rcases hq with ⟨i, -, h⟩ | h
    · subst hE
      have : ab + i = q := h
      show ab ≤ q
      omega
    · show ab ≤ q
      omega
  intro T hT X
  obtain ⟨v, st₀, t, T', L, h0, X', hL, e1, e2, ⟨⟨u, hv, hp, hb⟩, hz, hk⟩, st⟩ := hr T hT X
  cases hv
  rw [h0] at hz hk
  obtain ⟨t2, a1, b1⟩ := kk u T'.heap (locs ++ L) hp (by rw [e1]; exact hb)
    ⟨Nat.le_trans hS.1 (by rw [e1]; exact hz), fun q h1 h2 => by rw [e1, hk q (Nat.lt_of_lt_of_le h1 hS.1) (fun z => h2 (hA q z))]; exact hS.2.1 q h1 h2, fun q hq => by
      rcases List.mem_append.mp hq with h | h
      · exact hS.2.2 q h
      · exact hA _ (hL q h)⟩ T' rfl X'
  exact ⟨t2, st t2 a1, b1⟩
theorem n_vretN {K : Nat} {post : (Nat → va_E) → Prop} (hQ : Q = MQ below (nPn G ab N K ad post) args s cells slots (nF ab)) (hx : p.tables.exec = Jvm.exec) (hb : c.code = cc) (hr : meth.sig.returnType = none) (hlocks : meth.locks = false) (hP : va_P G.1 vwCl (nL (N + K) ad w) H) (hS : va_S (nF ab) s.heap H locs) (hdg : decode cc pc = .ok (.return_, 1)) (hpost : post w) : W p l e R s m args below meth c H locs cells slots Q (F0 m pc ls []) := by
  subst hQ
  exact W.vret hx hb hr (fun t ht _ => ⟨⟨w, rfl, hpost, by rw [ht]; exact hP⟩, hS.F ht⟩) hS.2.2 hdg hlocks
end NN
/-- an array of references may be written down otherwise beyond its end -/
theorem n_repR {G : nG} {N : Nat} {ad : Nat → Nat} {w : Nat → va_E} {H : Heap} {i n tq : Nat} {f f2 : Nat → Option Nat} (hi : i < N) (he : w i = aR G tq n f) (hF : ∀ k, k < n → f k = f2 k) (hP : va_P G.1 vwCl (nL N ad w) H) : va_P G.1 vwCl (nL N ad (va_up w i (aR G tq n f2))) H := by
  intro k q hk
  rw [nL_at] at hk
  by_cases hkN : k < N
  · rw [if_pos hkN] at hk
    cases hk
    by_cases e : k = i
    · subst e
      have h1 := hP k _ (nL_get hi he)
      rw [va_up_self]
      show H[ad k]? = some (vp_cell _ _)
      have h2 : H[ad k]? = some (vp_cell (G.2 tq) (n, .inr (.inr (.inr (.inr f))))) := h1
      rw [h2, vp_cell_q, vp_cell_q]
      exact congrArg some (arrV_c fun q hq => by rw [hF q hq])
    · rw [va_up_ne _ _ e]
      exact hP k _ (nL_get hkN rfl)
  · rw [if_neg hkN] at hk
    cases hk
