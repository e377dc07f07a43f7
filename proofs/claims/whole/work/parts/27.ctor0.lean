/-! ===== while the constructors run: the cells laid so far, in their order ===== -/
def va_AOI (U : State) : Prop := (Cond.arrayOver (.array .int)).before #[] U = true
theorem va_AOI.warm {s U : State} (hW : s.WarmedH U.vm) (h : va_AOI s) : va_AOI U := arrayOver_alikeB hW.alike h
theorem va_AOI.same {s U : State} (hv : s.vm = U.vm) (h : va_AOI s) : va_AOI U := arrayOver_alikeB (by rw [hv]; exact Vm.Alike.refl _) h
def Inv0 (G : GT) (s : State) (ws : va_W) (H : Heap) (locs : List Loc) : Prop := va_P G.2.1 vwCl ws H ∧ va_D (gA G) ws ∧ H.size = G.1 + ws.length ∧ va_S (gA G) s.heap H locs
def Cpre0 (G : GT) (ws : va_W) (U : State) : Prop := va_K G.2.1 vwCl (tys G.2.2.1) U ∧ va_P G.2.1 vwCl ws U.heap ∧ va_D (gA G) ws ∧ U.heap.size = G.1 + ws.length ∧ Gl G U ∧ va_AOI U
def QV0 (G : GT) (ws : va_W) : Array Value → State → Outcome → State → Prop := va_Qv (fun (_ : Unit) => True) (fun _ t => Cpre0 G ws t) (gA G)
abbrev MetG0 (G : GT) (l : Launch) (y : MethodName) (ws : List Cond) (rm : Room) (w0 : va_W) (av : List Value) (w1 : va_W) : Prop := Met l y ws rm (va_Pc av (Cpre0 G w0)) (QV0 G w1) rm.cells rm.slots (gA G)
theorem Cpre0.blind {G : GT} {ws : va_W} {av : List Value} : FrameBlind (va_Pc av (Cpre0 G ws)) := by
  intro a U g mk h
  obtain ⟨h0, h1, h2, h3, h4, ⟨h5, h6, h7⟩, h8⟩ := h
  have ha : U.vm.Alike (U.calling g mk a).vm := Vm.Alike.refl U.vm
  exact ⟨h0, va_K.moved (u := U) (U := U.calling g mk a) ha h1, h2, h3, h4, ⟨GlT.same (s := U) (U := U.calling g mk a) rfl h5, fun i hi => vk_R.same (u := U) (U := U.calling g mk a) rfl (h6 i hi), GlH.to (s := U) (U := U.calling g mk a) (H := U.heap) ha (fun _ _ _ => rfl) h7⟩, va_AOI.same (s := U) (U := U.calling g mk a) rfl h8⟩
theorem cpre0_of {G : GT} {s t : State} {ws : va_W} {H : Heap} {locs : List Loc} (hK : va_K G.2.1 vwCl (tys G.2.2.1) s) (hG : Gl G s ∧ va_AOI s) (hI : Inv0 G s ws H locs) (ht : t.heap = H) (hW : s.WarmedH t.vm) : Cpre0 G ws t := by
  subst ht
  exact ⟨hK.moved hW.alike, hI.1, hI.2.1, hI.2.2.1, ⟨hG.1.1.warm hW, fun i hi => (hG.1.2.1 i hi).warm hW, hG.1.2.2.to hW.alike hI.2.2.2.2.1⟩, hG.2.warm hW⟩
theorem met_of0 {G : GT} {l : Launch} {y : MethodName} {ws ws' : List Cond} {rm : Room} {w0 w1 : va_W} {av : List Value} {cc : ByteArray} {nL : Nat} {ret : Option FieldType} (hy : plainName y.cls = true) (hw : ws = Cond.code y cc nL ret :: ws') (hn : (lg_sl av).length ≤ nL)
    (body : ∀ (p : Program) (e : Env) (s : State) (m : MethodId) (below : List Frame) (meth : Method) (c : Code), Cx G cc y.cls ws nL ret p s m av.toArray meth c → va_AOI s → meth.name = y.name → Inv0 G s w0 s.heap [] → ∀ ls : Array Slot, lv_has ls nL (lv_args 0 av) → W p l e rm s m av.toArray below meth c s.heap [] 0 0 (MQ below (QV0 G w1) av.toArray s rm.cells rm.slots (gA G)) (F0 m 0 ls [])) : MetG0 G l y ws rm w0 av w1 := by
  refine Met.ofW (cc := cc) (maxL := nL) (ret := ret) hy hw ?_
  intro p e s m args below meth c s₁ B hml hv
  obtain ⟨rfl, h1, h2, h3, h4, h5, h6⟩ := hv
  rw [lg_entry_eq]
  exact body p e s m below meth c ⟨B.exec, B.bytes, B.returns, hml, findClass_of_methodNamed B.named, atoms_spec (ws := ws) B.pre, B.notSynchronized, h1, h5⟩ h6 (name_of_methodNamed B.named B.method).1 ⟨h2, h3, h4, va_S.rf⟩ _ (lv_entry av hn)
theorem app_at {ws0 l : va_W} {q i : Nat} (hq : ws0.length = q) : (ws0 ++ l)[q + i]? = l[i]? := by
  subst hq
  rw [List.getElem?_append_right (by omega), Nat.add_sub_cancel_left]
theorem app_set {ws0 l : va_W} {q i : Nat} {c : Nat × va_E} (hq : ws0.length = q) : (ws0 ++ l).set (q + i) c = ws0 ++ l.set i c := by
  subst hq
  rw [List.set_append_right (h := by omega), Nat.add_sub_cancel_left]
theorem app_len {ws0 l : va_W} {q k : Nat} (hq : ws0.length = q) (hl : l.length = k) : (ws0 ++ l).length = q + k := by rw [List.length_append, hq, hl]
section YR
variable {G : GT} {p : Program} {l : Launch} {e : Env} {R : Room} {s : State} {m : MethodId} {args : Array Value} {below : List Frame} {meth : Method} {c : Code} {H : Heap} {locs : List Loc} {cells slots : Nat} {Q : State → Prop}
variable {cc : ByteArray} {pc : Nat} {ls : Array Slot} {rest : List Value} {ws : va_W} {a : Array Value}
theorem y_vret (hx : p.tables.exec = Jvm.exec) (hb : c.code = cc) (hr : meth.sig.returnType = none) (hlk : meth.locks = false) (hK : va_K G.2.1 vwCl (tys G.2.2.1) s) (hG : Gl G s ∧ va_AOI s) (hI : Inv0 G s ws H locs) (hdg : decode cc pc = .ok (.return_, 1)) : W p l e R s m args below meth c H locs cells slots (MQ below (QV0 G ws) args s cells slots (gA G)) (F0 m pc ls []) :=
  W.vret hx hb hr (fun t ht hW => ⟨⟨(), rfl, trivial, cpre0_of hK hG hI ht hW⟩, hI.2.2.2.F ht⟩) hI.2.2.2.2.2 hdg hlk
theorem inv0_push {H1 : Heap} {x : va_E} {ad : Nat} (had : G.1 + ws.length = ad) (hI : Inv0 G s ws H locs) (hx : va_at G.2.1 vwCl (ad, x) H1) (z1 : H1.size = H.size + 1) (o1 : ∀ q, q < H.size → H1[q]? = H[q]?) : Inv0 G s (ws ++ [(ad, x)]) H1 locs := by
  subst had
  refine ⟨(hI.1.kept (fun k y hy => o1 y.1 ((hI.1 k y hy).lt))).app (fun k y hy => ?_), hI.2.1.push hI.1 hI.2.2.1.symm (Nat.le_add_right _ _), by rw [z1, hI.2.2.1, List.length_append]; rfl, Nat.le_trans hI.2.2.2.1 (by omega), fun q h1 h2 => (o1 q (Nat.lt_of_lt_of_le h1 hI.2.2.2.1)).trans (hI.2.2.2.2.1 q h1 h2), hI.2.2.2.2.2⟩
  have hz : k < 1 := (List.getElem?_eq_some_iff.mp hy).1
  rw [show k = 0 by omega] at hy
  cases hy
  exact hx
theorem y_newa (hx : p.tables.exec = Jvm.exec) (hb : c.code = cc) {atype : ArrayType} (harr : (Cond.arrayClass (newarray.typeOf atype)).before args s = true) {ty : FieldType} (hty : newarray.typeOf atype = ty) (hK : va_K G.2.1 vwCl (tys G.2.2.1) s) (hI : Inv0 G s ws H locs) {cA : ClassId} (t0 : Nat) (ht : (tys G.2.2.1)[t0]? = some (cA, ty)) (hprim : va_RA s cA ty → s.vm.findClass ("[" ++ ty.toString) = some cA)
    {n : Int32} {N' ad : Nat} {a0 : vp_A} (ha : ∀ cA : ClassId, vp_cell cA a0 = arrV cA N' (fun _ => defaultValue ty)) (hn : ¬ n < 0) (hN : n.toNatClampNeg = N') (hbytes : N' * componentBytes ty ≤ 536870912) (hcells : cells + 1 ≤ R.cells) (hslots : slots + N' ≤ R.slots) (had : G.1 + ws.length = ad) (hdg : decode cc pc = .ok (.newarray atype, 2))
    (kk : ∀ (H : Heap) (locs : List Loc), Inv0 G s (ws ++ [(ad, .inl (cA, a0))]) H locs → W p l e R s m args below meth c H locs (cells + 1) (slots + N') Q (F0 m (pc + 2) ls (.ref ad :: rest))) : W p l e R s m args below meth c H locs cells slots Q (F0 m pc ls (.int n :: rest)) := by
  subst hty
  refine va_newaK hx hb harr rfl hdg rfl hn hN hbytes hcells hslots (hI.2.2.1.trans had) fun H1 cB e1 z1 o1 hAr hNm => ?_
  have hcB : cB = cA := Option.some.inj (hNm.symm.trans (hprim (hK.2 t0 _ ht).2))
  subst hcB
  have hsz : H.size = ad := hI.2.2.1.trans had
  refine kk H1 locs (inv0_push had hI ?_ (by rw [z1, hsz]) (fun q hq => o1 q (by rw [← hsz]; exact hq)))
  show H1[ad]? = some (vp_cell _ _)
  rw [ha]
  exact e1
theorem y_anew (hx : p.tables.exec = Jvm.exec) (hb : c.code = cc) {own C : String} {index : Nat} (hown : s.vm.findClass own = some m.cls) (hclink : (Cond.classLink own index C).before args s = true) (hover : va_AO C s) (hK : va_K G.2.1 vwCl (tys G.2.2.1) s) (hI : Inv0 G s ws H locs) {cA : ClassId} (t0 : Nat) (ht : (tys G.2.2.1)[t0]? = some (cA, .object C)) {n : Int32} {N' ad : Nat} (hn : ¬ n < 0) (hN : n.toNatClampNeg = N') (hbytes : N' * 4 ≤ 536870912) (hcells : cells + 1 ≤ R.cells) (hslots : slots + N' ≤ R.slots) (had : G.1 + ws.length = ad) (hdg : decode cc pc = .ok (.anewarray index, 3))
    (kk : ∀ (H : Heap) (locs : List Loc), Inv0 G s (ws ++ [(ad, .inl (cA, N', .inr (.inr (.inr (.inr (fun _ => none))))))]) H locs → W p l e R s m args below meth c H locs (cells + 1) (slots + N') Q (F0 m (pc + 3) ls (.ref ad :: rest))) : W p l e R s m args below meth c H locs cells slots Q (F0 m pc ls (.int n :: rest)) := by
  subst hN
  have hsz : H.size = ad := hI.2.2.1.trans had
  refine W.anew hx hb hown hclink (va_AO.use hover) rfl hdg rfl hn hbytes hcells hslots fun cB kA comp f1 f2 f3 f4 => ?_
  obtain ⟨kA2, comp2, g1, g2, g3, g4⟩ := (hK.2 t0 _ ht).2
  have hcB : cB = cA := Option.some.inj (f1.symm.trans g4)
  subst hcB
  rw [hsz]
  refine kk _ locs (inv0_push had hI ?_ (by rw [Array.size_push]) (fun q hq => by rw [Array.getElem?_push, if_neg (Nat.ne_of_lt hq)]))
  show _ = some (vp_cell _ _)
  rw [← hsz, Array.getElem?_push_size, vp_cell_q, ← arrV_new]
  rfl
theorem y_new (hx : p.tables.exec = Jvm.exec) (hb : c.code = cc) {own C : String} {T : u_T} {N ci index : Nat} {Ts : List Cond} (hts : ∀ w ∈ Ts, w.before args s = true) (hin : ∀ w ∈ u_ws C T N, w ∈ Ts) (ty : Nat → FieldType) (hty : ∀ k, k < N → parseFieldDescriptor (T k).2.2.1 = some (ty k)) (hown : s.vm.findClass own = some m.cls) (hcl : (Cond.classLink own index C).before args s = true) (hinst : (Cond.instantiable C N).before args s = true) (hini : (Cond.initialized C).before args s = true)
    (hK : va_K G.2.1 vwCl (tys G.2.2.1) s) (hI : Inv0 G s ws H locs) (hc : vwCl[ci]? = some (C, T, N)) {fs : List Value} (hfs : ∀ j, j < N → defaultValue (ty j) = vp_V fs j) (hcells : cells + 1 ≤ R.cells) (hslots : slots + N ≤ R.slots) {ad : Nat} (had : G.1 + ws.length = ad) (hdg : decode cc pc = .ok (.new index, 3))
    (kk : ∀ (H : Heap) (locs : List Loc), Inv0 G s (ws ++ [(ad, .inr (ci, fs))]) H locs → W p l e R s m args below meth c H locs (cells + 1) (slots + N) Q (F0 m (pc + 3) ls (.ref ad :: rest))) : W p l e R s m args below meth c H locs cells slots Q (F0 m pc ls rest) := by
  have hKn := hK.1 ci _ hc
  have hsz : H.size = ad := hI.2.2.1.trans had
  refine W.newcK hx hb hown hcl hinst hini rfl hdg hcells hslots hKn.2.1 hsz fun H1 kC hkC e1 z1 o1 => ?_
  refine kk H1 locs (inv0_push had hI ⟨_, hc, (u_born ty hts hin hKn hkC e1 hty).to hfs⟩ (by rw [z1, hsz]) (fun q hq => o1 q (by rw [← hsz]; exact hq)))
theorem inv0_set {H1 : Heap} {i ad k : Nat} {x x0 : va_E} (hI : Inv0 G s ws H locs) (he : ws[i]? = some (ad, x0)) (hx : va_at G.2.1 vwCl (ad, x) H1) (z1 : H1.size = H.size) (o1 : ∀ q, q ≠ ad → H1[q]? = H[q]?) : Inv0 G s (ws.set i (ad, x)) H1 (locs ++ [⟨ad, k⟩]) :=
  ⟨hI.1.set hI.2.1 he hx o1, hI.2.1.set he, by rw [z1, List.length_set]; exact hI.2.2.1, hI.2.2.2.put z1 o1 (hI.2.1.2 i _ he)⟩
theorem y_iast (hx : p.tables.exec = Jvm.exec) (hb : c.code = cc) (hK : va_K G.2.1 vwCl (tys G.2.2.1) s) (hI : Inv0 G s ws H locs) {i ad n : Nat} {f : Nat → Int32} (he : ws[i]? = some (ad, .inl (G.2.2.1 1, n, .inl f))) {j x : Int32} (hin : inb j n) (hdg : decode cc pc = .ok (.iastore, 1))
    (kk : ∀ (H : Heap) (locs : List Loc), Inv0 G s (ws.set i (ad, .inl (G.2.2.1 1, n, .inl (upd f j.toNatClampNeg x)))) H locs → W p l e R s m args below meth c H locs cells slots Q (F0 m (pc + 1) ls rest)) : W p l e R s m args below meth c H locs cells slots Q (F0 m pc ls (.int x :: .int j :: .ref ad :: rest)) := by
  refine W.iast hx hb (hI.1 i _ he) ((hK.2 1 _ rfl).1 n (fun j => .int (f j))) (fun q => by cases q) (by show ¬ (j < 0 ∨ (arrV _ _ _).slots.size ≤ _); rw [arrV_size]; exact inb_in hin) rfl rfl hdg fun H1 e z oq => ?_
  refine kk H1 _ (inv0_set hI he ?_ z oq)
  show H1[ad]? = some (vp_cell _ _)
  rw [e]
  rw [vp_cell_i, vp_cell_i, arrV_store]
  congr 2
  funext q
  by_cases hq : q = j.toNatClampNeg
  · subst hq
    simp [updV, upd]
  · simp [updV, upd, hq]
theorem y_get (hx : p.tables.exec = Jvm.exec) (hb : c.code = cc) {own ref C : String} {T : u_T} {N ci index : Nat} {Ts : List Cond} (hts : ∀ w ∈ Ts, w.before args s = true) (hin : ∀ w ∈ u_ws C T N, w ∈ Ts) (hown : s.vm.findClass own = some m.cls) (hK : va_K G.2.1 vwCl (tys G.2.2.1) s) (hI : Inv0 G s ws H locs) {i ad : Nat} {fs : List Value} (he : ws[i]? = some (ad, .inr (ci, fs))) (hc : vwCl[ci]? = some (C, T, N)) (k : Nat) (hkN : k < N) (hlink : (Cond.fieldLink own index ref (T k).2.1 (T k).2.2.1).before args s = true) (hsame : ∀ x, s.fieldFound? (T k).1 (T k).2.1 (T k).2.2.1 = some x → s.fieldFound? ref (T k).2.1 (T k).2.2.1 = some x) {v : Value} (hv : fs[k]? = some v) (hdg : decode cc pc = .ok (.getfield index, 3))
    (kk : W p l e R s m args below meth c H locs cells slots Q (F0 m (pc + 3) ls (v :: rest))) : W p l e R s m args below meth c H locs cells slots Q (F0 m pc ls (.ref ad :: rest)) :=
  va_get hx hb hts hin hown hK hI.1 i he hc k hkN hlink hsame hv hdg kk
/-- a field of the object that is being made: final ones in its own constructor, others anywhere -/
theorem y_put (hx : p.tables.exec = Jvm.exec) (hb : c.code = cc) {own ref C : String} {T : u_T} {N ci index : Nat} {Ts : List Cond} (hts : ∀ w ∈ Ts, w.before args s = true) (hin : ∀ w ∈ u_ws C T N, w ∈ Ts) (ty0 : Nat → FieldType) (hty : ∀ k, k < N → parseFieldDescriptor (T k).2.2.1 = some (ty0 k)) (hnm : ∀ a, a < N → ∀ b, b < N → a ≠ b → (T a).2.1 ≠ (T b).2.1) (hown : s.vm.findClass own = some m.cls) (hin2 : meth.name = "<init>") (hdecl : ∀ k, k < N → (T k).1 = own) (hK : va_K G.2.1 vwCl (tys G.2.2.1) s) (hI : Inv0 G s ws H locs) {i ad : Nat} {fs : List Value} (he : ws[i]? = some (ad, .inr (ci, fs))) (hc : vwCl[ci]? = some (C, T, N)) (k : Nat) (hkN : k < N) (hlink : (Cond.fieldLink own index ref (T k).2.1 (T k).2.2.1).before args s = true) (hsame : ∀ x, s.fieldFound? (T k).1 (T k).2.1 (T k).2.2.1 = some x → s.fieldFound? ref (T k).2.1 (T k).2.2.1 = some x) {ty : FieldType} {v : Value} (hd : parseFieldDescriptor (T k).2.2.1 = some ty) (hn : narrow ty v = v) (hfit : fits ty v = true) (hl : k < fs.length)
    (hdg : decode cc pc = .ok (.putfield index, 3)) (kk : ∀ (H : Heap) (locs : List Loc), Inv0 G s (ws.set i (ad, .inr (ci, fs.set k v))) H locs → W p l e R s m args below meth c H locs cells slots Q (F0 m (pc + 3) ls rest)) : W p l e R s m args below meth c H locs cells slots Q (F0 m pc ls (v :: .ref ad :: rest)) := by
  have hap := va_apart (own := own) hts hin ty0 hty hnm hK hc
  obtain ⟨r9, g1, cell, g2, g3, g4, g5⟩ := hI.1 i _ he
  obtain rfl : r9 = (C, T, N) := Option.some.inj (g1.symm.trans hc)
  obtain ⟨f1, f2, kC, f3, f4⟩ := hK.1 ci _ hc
  obtain ⟨cf, kf, fi, fd, hi, hsl⟩ := f1 k hkN
  have hlay := hts _ (hin _ (u_in_lay hkN))
  have hst := (u_facts f2 f3 (u_lays hts hin hkN) hi).1
  have fin : ∀ (H1 : Heap), H1[ad]? = some (cell.setSlot fd.slot v) → H1.size = H.size → (∀ q, q ≠ ad → H1[q]? = H[q]?) → Inv0 G s (ws.set i (ad, .inr (ci, fs.set k v))) H1 (locs ++ [⟨ad, fd.slot⟩]) := by
    intro H1 e1 e2 e3
    rw [hsl] at e1
    exact inv0_set hI he ⟨_, hc, t_OB.to (V := updV (vp_V fs) k v) ⟨_, e1, g3, g4, t_set g5 hap hkN v⟩ (fun j _ => vp_updV_set hl v j)⟩ e2 e3
  unfold u_lay at hlay
  by_cases hfin : (T k).2.2.2 = true
  · rw [if_pos hfin] at hlay
    have hcf : m.cls = cf := by
      obtain ⟨_, _, c', _, _, _, -, -, hf', -, -, -, hown2, -⟩ := Cond.laysFinal_spec hlay
      have e1 : c' = cf := by have := hi.symm.trans hf'; simp at this; exact this.1.symm
      rw [hdecl k hkN] at hown2
      rw [← e1]
      exact Option.some.inj (hown.symm.trans hown2)
    have h6 := u_fits f2 f3 f4 (Or.inr hlay) hi hd hn hfit
    exact W.putFinK hx hb hown hlink (hsame _ hi) hst hcf hin2 (by rw [g3]; exact h6) g2 g4 (by rw [hsl]; exact k2_hasslot (g5 k hkN)) rfl rfl hdg fun H1 e1 e2 e3 => kk H1 _ (fin H1 e1 e2 e3)
  · rw [if_neg hfin] at hlay
    have h6 := u_store f2 f3 f4 hlay hi hd hn hfit
    exact W.putK hx hb (f := fd) ⟨hown, hlink, ⟨_, _, _, hsame _ hi⟩, hst⟩ (by rw [g3]; exact h6) g2 g4 (by rw [hsl]; exact k2_hasslot (g5 k hkN)) rfl rfl hdg fun H1 e1 e2 e3 => kk H1 _ (fin H1 e1 e2 e3)
theorem y_call {ws1 : va_W} {mc ms : Nat} {st0 : List Value} (hI : Inv0 G s ws H locs) (hr : va_Run p l e R s m args below meth c H locs cells slots mc ms (F0 m pc ls st0) rest (QV0 G ws1 a) (gA G))
    (kk : ∀ (H : Heap) (locs : List Loc), Inv0 G s ws1 H locs → W p l e R s m args below meth c H locs (cells + mc) (slots + ms) Q (F0 m (pc + 3) ls rest)) : W p l e R s m args below meth c H locs cells slots Q (F0 m pc ls st0) := by
  refine va_callv hr hI.2.2.2 (fun _ _ h => h) (fun _ h => h) (fun u t H1 locs1 ht _ hp hB _ _ hS => ?_)
  subst ht
  exact kk _ locs1 ⟨hB.2.1, hB.2.2.1, hB.2.2.2.1, hS⟩
theorem y_pre {av : List Value} (hK : va_K G.2.1 vwCl (tys G.2.2.1) s) (hG : Gl G s ∧ va_AOI s) (hI : Inv0 G s ws H locs) : PreS s H (va_Pc av (Cpre0 G ws)) av := ⟨Cpre0.blind, fun U hU hW => ⟨rfl, cpre0_of hK hG hI hU hW⟩⟩
theorem y_mna (hx : p.tables.exec = Jvm.exec) (hb : c.code = cc) {own : String} {index : Nat} (hown : s.vm.findClass own = some m.cls) (hclink : (Cond.classLink own index ("[" ++ (FieldType.array .int).toString)).before args s = true) (hover : (Cond.arrayOver (.array .int)).before args s = true) (harr : (Cond.arrayClass .int).before args s = true) (hK : va_K G.2.1 vwCl (tys G.2.2.1) s) (hI : Inv0 G s ws H locs) {q : Nat} (hq : ws.length = q) (hcells : cells + (1 + 8) ≤ R.cells) (hslots : slots + (8 + 8 * 40) ≤ R.slots) (hdg : decode cc pc = .ok (.multianewarray index 2, 4))
    (kk : ∀ (H : Heap) (locs : List Loc), Inv0 G s (ws ++ ((G.1 + q, .inl (G.2.2.1 5, 8, .inr (.inr (.inr (.inr (fun k => if k < 8 then some (G.1 + (q + 1 + k)) else none)))))) :: (List.range 8).map (fun k => (G.1 + (q + 1 + k), .inl (G.2.2.1 1, 40, .inl (fun _ => 0)))))) H locs → W p l e R s m args below meth c H locs (cells + 1 + 8) (slots + 8 + 8 * 40) Q (F0 m (pc + 4) ls (.ref (G.1 + q) :: rest))) : W p l e R s m args below meth c H locs cells slots Q (F0 m pc ls (.int 40 :: .int 8 :: rest)) := by
  subst hq
  have hsz : H.size = G.1 + ws.length := hI.2.2.1
  intro T hT Xs
  obtain ⟨vm₁, cA, comp, -, fA, fC, hO, -, X1, step⟩ := Xs.multianewarray2F hx hown hclink hover harr (g := F0 m pc ls (.int 40 :: .int 8 :: rest)) rfl (by rw [hb]; exact hdg) rfl (by decide) (by decide) (by decide) (by decide) (by decide) rfl rfl hcells hslots
  have h5 : s.vm.findClass ("[" ++ (FieldType.array .int).toString) = some (G.2.2.1 5) := (hK.2 5 _ rfl).2
  have h1 : s.vm.findClass ("[" ++ FieldType.int.toString) = some (G.2.2.1 1) := (hK.2 1 _ rfl).2
  have ec : cA = G.2.2.1 5 := Option.some.inj (fA.symm.trans h5)
  have ed : comp = G.2.2.1 1 := Option.some.inj (fC.symm.trans (show s.vm.findClass (FieldType.array .int).toString = _ from h1))
  subst ec
  subst ed
  rw [show (8 : Int32).toNatClampNeg = 8 from by decide, show (40 : Int32).toNatClampNeg = 40 from by decide] at X1 step
  generalize hF : Jvm.Free.Multi.fill (T.setVm vm₁) (G.2.2.1 5) (G.2.2.1 1) 8 40 (defaultValue .int) 8 = F at X1 step
  have hTh : (T.setVm vm₁).heap = H := hT
  obtain ⟨f1, f2, -, -⟩ := Jvm.Free.Multi.fill_facts (T.setVm vm₁) (G.2.2.1 5) (G.2.2.1 1) 8 40 (defaultValue .int) 8
  rw [hF, hTh] at f1 f2
  have hold : ∀ x : Nat, x < H.size → F.heap[x]? = H[x]? := fun x hx9 => by
    have := Jvm.Free.Multi.fill_old (T.setVm vm₁) (G.2.2.1 5) (G.2.2.1 1) 8 40 (defaultValue .int) (a := x) (by rw [hTh]; exact hx9) 8
    rw [hF, hTh] at this
    exact this
  have hrow : ∀ j : Nat, j < 8 → F.heap[H.size + 1 + j]? = some (vp_cell (G.2.2.1 1) (40, .inl (fun _ => 0))) := fun j hj => by
    have := Jvm.Free.Multi.fill_inner (T.setVm vm₁) (G.2.2.1 5) (G.2.2.1 1) 8 40 (defaultValue .int) 8 j hj
    rw [hF, hTh] at this
    rw [this, vp_cell_i, ← arrV_new]
    rfl
  have hout : F.heap[H.size]? = some (vp_cell (G.2.2.1 5) (8, .inr (.inr (.inr (.inr (fun k => if k < 8 then some (G.1 + (ws.length + 1 + k)) else none)))))) := by
    rw [f2, vr_outer, vp_cell_q]
    have e9 : (fun j => va_rf (if j < 8 then some (H.size + 1 + j) else none)) = fun j => va_rf (if j < 8 then some (G.1 + (ws.length + 1 + j)) else none) := by
      funext j
      rw [hsz, Nat.add_assoc, Nat.add_assoc, ← Nat.add_assoc ws.length]
    rw [e9]
  have hP0 : va_P G.2.1 vwCl ws F.heap := hI.1.kept (fun k9 x hx9 => hold x.1 ((hI.1 k9 x hx9).lt))
  have hnew : va_P G.2.1 vwCl ((G.1 + ws.length, .inl (G.2.2.1 5, 8, .inr (.inr (.inr (.inr (fun k => if k < 8 then some (G.1 + (ws.length + 1 + k)) else none)))))) :: (List.range 8).map (fun k => (G.1 + (ws.length + 1 + k), .inl (G.2.2.1 1, 40, .inl (fun _ => 0))))) F.heap := by
    intro k9 x hx9
    cases k9 with
    | zero =>
      cases hx9
      show F.heap[G.1 + ws.length]? = _
      rw [← hsz]
      exact hout
    | succ k9 =>
      rw [List.getElem?_cons_succ] at hx9
      obtain ⟨i, hi, rfl⟩ := List.mem_map.mp (List.mem_of_getElem? hx9)
      show F.heap[G.1 + (ws.length + 1 + i)]? = _
      rw [show G.1 + (ws.length + 1 + i) = H.size + 1 + i by rw [hsz]; omega]
      exact hrow i (List.mem_range.mp hi)
  have hlen : ((G.1 + ws.length, (.inl (G.2.2.1 5, 8, .inr (.inr (.inr (.inr (fun k => if k < 8 then some (G.1 + (ws.length + 1 + k)) else none))))) : va_E)) :: (List.range 8).map (fun k => (G.1 + (ws.length + 1 + k), (.inl (G.2.2.1 1, 40, .inl (fun _ => 0)) : va_E)))).length = 9 := rfl
  have hDn : va_D (gA G) ((G.1 + ws.length, (.inl (G.2.2.1 5, 8, .inr (.inr (.inr (.inr (fun k => if k < 8 then some (G.1 + (ws.length + 1 + k)) else none))))) : va_E)) :: (List.range 8).map (fun k => (G.1 + (ws.length + 1 + k), (.inl (G.2.2.1 1, 40, .inl (fun _ => 0)) : va_E)))) := by
    have key : ∀ (i : Nat) (x : Nat × va_E), ((G.1 + ws.length, (.inl (G.2.2.1 5, 8, .inr (.inr (.inr (.inr (fun k => if k < 8 then some (G.1 + (ws.length + 1 + k)) else none))))) : va_E)) :: (List.range 8).map (fun k => (G.1 + (ws.length + 1 + k), (.inl (G.2.2.1 1, 40, .inl (fun _ => 0)) : va_E))))[i]? = some x → x.1 = G.1 + ws.length + i := by
      intro i x hx9
      cases i with
      | zero => cases hx9; rfl
      | succ i =>
        rw [List.getElem?_cons_succ, List.getElem?_map] at hx9
        by_cases hi : i < 8
        · rw [List.getElem?_range hi] at hx9
          cases hx9
          show G.1 + (ws.length + 1 + i) = _
          omega
        · rw [List.getElem?_eq_none (by simp; omega)] at hx9
          cases hx9
    refine ⟨fun i j x y hi hj e9 => ?_, fun k x hk => ?_⟩
    · have := key i x hi
      have := key j y hj
      omega
    · have := key k x hk
      show G.1 ≤ x.1
      omega
  have hI1 : Inv0 G s (ws ++ ((G.1 + ws.length, .inl (G.2.2.1 5, 8, .inr (.inr (.inr (.inr (fun k => if k < 8 then some (G.1 + (ws.length + 1 + k)) else none)))))) :: (List.range 8).map (fun k => (G.1 + (ws.length + 1 + k), .inl (G.2.2.1 1, 40, .inl (fun _ => 0)))))) F.heap locs := by
    refine ⟨hP0.app hnew, hI.2.1.app hDn (fun i j x y hi hj e9 => ?_), ?_, Nat.le_trans hI.2.2.2.1 (by rw [f1]; omega), fun x h1 h2 => (hold x (Nat.lt_of_lt_of_le h1 hI.2.2.2.1)).trans (hI.2.2.2.2.1 x h1 h2), hI.2.2.2.2.2⟩
    · have a1 := (hI.1 i x hi).lt
      have a2 : G.1 + ws.length ≤ y.1 := by
        cases j with
        | zero => cases hj; exact Nat.le_refl _
        | succ j =>
          rw [List.getElem?_cons_succ] at hj
          obtain ⟨i9, -, rfl⟩ := List.mem_map.mp (List.mem_of_getElem? hj)
          show G.1 + ws.length ≤ G.1 + (ws.length + 1 + i9)
          omega
      rw [hsz] at a1
      omega
    · rw [f1, hsz, List.length_append, hlen]
      omega
  obtain ⟨t2, b1, b2⟩ := kk F.heap locs hI1 F rfl X1
  refine ⟨t2, ?_, b2⟩
  have hs9 := step t2
  rw [show T.heap.size = G.1 + ws.length by rw [hT]; exact hsz] at hs9
  exact hs9 b1
end YR
