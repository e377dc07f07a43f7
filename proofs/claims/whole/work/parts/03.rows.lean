def nF : List (String × Nat × String × String × String) := [("FenceYards", 186, "FenceYards$Rows", "items", "[[I"), ("FenceYards", 94, "FenceYards$Reader", "size", "I"), ("FenceYards", 114, "FenceYards$Reader", "faultNumber", "I"), ("FenceYards", 108, "FenceYards$Reader", "faultPlace", "I"), ("FenceYards", 223, "FenceYards$Seer", "guesses", "I"), ("FenceYards", 226, "FenceYards$Seer", "firstGuess", "I"), ("FenceYards", 255, "FenceYards$Trace", "size", "I"), ("FenceYards$Reader", 31, "FenceYards$Ground", "stands", "Z"), ("FenceYards", 117, "FenceYards$Ground", "stands", "Z"), ("FenceYards$Seer", 44, "FenceYards$Ground", "told", "I"), ("FenceYards$Reader", 47, "FenceYards$Ground", "told", "I"), ("FenceYards", 111, "FenceYards$Ground", "told", "I"), ("FenceYards$Reader", 78, "FenceYards$Ground", "ponds", "I"), ("FenceYards", 269, "FenceYards$Ground", "ponds", "I"), ("FenceYards$Seer", 99, "FenceYards$Ground", "today", "I"), ("FenceYards", 128, "FenceYards$Ground", "today", "I")]
def nM : List (String × Nat × MethodName) := [("FenceYards", 11, ⟨"FenceYards$Rows", "<init>", "()V"⟩), ("FenceYards", 18, ⟨"FenceYards$Reader", "<init>", "()V"⟩), ("FenceYards", 25, ⟨"FenceYards$Seer", "<init>", "()V"⟩), ("FenceYards", 32, ⟨"FenceYards$Trace", "<init>", "()V"⟩), ("FenceYards", 39, ⟨"FenceYards$Ground", "<init>", "()V"⟩), ("FenceYards", 62, ⟨"FenceYards$Rows", "make", "(III)V"⟩), ("FenceYards", 69, ⟨"FenceYards$Rows", "isMissing", "(I)Z"⟩), ("FenceYards", 72, ⟨"FenceYards$Rows", "sizeOf", "(I)I"⟩), ("FenceYards", 75, ⟨"FenceYards$Rows", "put", "(III)I"⟩), ("FenceYards", 79, ⟨"FenceYards$Rows", "areOfOneLane", "(II)Z"⟩), ("FenceYards", 83, ⟨"FenceYards$Rows", "holds", "(III)Z"⟩), ("FenceYards", 87, ⟨"FenceYards$Rows", "move", "(IIIII)V"⟩), ("FenceYards", 91, ⟨"FenceYards$Rows", "remove", "(I)I"⟩), ("FenceYards", 99, ⟨"FenceYards$Reader", "append", "(JI)V"⟩), ("FenceYards", 103, ⟨"FenceYards$Reader", "readsInto", "(LFenceYards$Ground;)Z"⟩), ("FenceYards$Reader", 22, ⟨"FenceYards$Ground", "begin", "()V"⟩), ("FenceYards$Reader", 70, ⟨"FenceYards$Ground", "putFence", "(II)V"⟩), ("FenceYards$Reader", 81, ⟨"FenceYards$Ground", "endOn", "(I)I"⟩), ("FenceYards$Reader", 85, ⟨"FenceYards$Ground", "addPond", "(II)V"⟩), ("FenceYards$Reader", 92, ⟨"FenceYards", "newStrip", "(IIII)LFenceYards$Strip;"⟩), ("FenceYards$Reader", 96, ⟨"FenceYards$Ground", "addStrip", "(LFenceYards$Strip;)V"⟩), ("FenceYards", 125, ⟨"FenceYards$Ground", "endOn", "(I)I"⟩), ("FenceYards", 131, ⟨"FenceYards$Ground", "isOpen", "(II)Z"⟩), ("FenceYards", 134, ⟨"FenceYards$Seer", "gather", "(LFenceYards$Ground;I)V"⟩), ("FenceYards$Seer", 49, ⟨"FenceYards$Ground", "toldStrip", "(I)LFenceYards$Strip;"⟩), ("FenceYards", 138, ⟨"FenceYards$Seer", "leftReaps", "(II)I"⟩), ("FenceYards$Seer", 62, ⟨"FenceYards", "shareOf", "(III)I"⟩), ("FenceYards", 142, ⟨"FenceYards$Seer", "allReaps", "()I"⟩), ("FenceYards", 146, ⟨"FenceYards$Ground", "passDay", "(IIII)V"⟩), ("FenceYards", 150, ⟨"FenceYards$Ground", "toldStrip", "(I)LFenceYards$Strip;"⟩), ("FenceYards", 174, ⟨"FenceYards$Ground", "leftSoFar", "()I"⟩), ("FenceYards", 177, ⟨"FenceYards$Ground", "rightSoFar", "()I"⟩), ("FenceYards", 183, ⟨"FenceYards$Rows", "startsWithMoves", "(II)Z"⟩), ("FenceYards$Rows", 39, ⟨"FenceYards", "isMove", "(I)Z"⟩), ("FenceYards", 190, ⟨"FenceYards$Seer", "bestOf", "(LFenceYards$Ground;[II)I"⟩), ("FenceYards$Seer", 86, ⟨"FenceYards$Ground", "daysOf", "(I)I"⟩), ("FenceYards$Seer", 67, ⟨"FenceYards$Ground", "lowestOn", "(II)I"⟩), ("FenceYards$Seer", 74, ⟨"FenceYards$Ground", "highestOn", "(II)I"⟩), ("FenceYards$Seer", 114, ⟨"FenceYards$Ground", "endOn", "(I)I"⟩), ("FenceYards$Seer", 139, ⟨"FenceYards$Ground", "isOpen", "(II)Z"⟩), ("FenceYards", 194, ⟨"FenceYards$Ground", "daysOf", "(I)I"⟩), ("FenceYards", 197, ⟨"FenceYards$Seer", "bestMove", "(I)I"⟩), ("FenceYards", 201, ⟨"FenceYards$Seer", "gameOf", "(LFenceYards$Ground;I)I"⟩), ("FenceYards", 205, ⟨"FenceYards$Seer", "firstMove", "(LFenceYards$Ground;I)I"⟩), ("FenceYards", 208, ⟨"FenceYards$Seer", "restingOf", "(LFenceYards$Ground;I)I"⟩), ("FenceYards", 215, ⟨"FenceYards$Ground", "putStrip", "(ILFenceYards$Strip;)V"⟩), ("FenceYards", 219, ⟨"FenceYards$Seer", "guessMoves", "(LFenceYards$Ground;II)V"⟩), ("FenceYards", 229, ⟨"FenceYards$Ground", "lowestOn", "(II)I"⟩), ("FenceYards", 241, ⟨"FenceYards$Ground", "become", "(LFenceYards$Ground;)V"⟩), ("FenceYards$Apple", 7, ⟨"FenceYards$Trace", "leave", "(I)V"⟩), ("FenceYards$Bean", 16, ⟨"FenceYards$Trace", "leave", "(I)V"⟩), ("FenceYards$Rye", 22, ⟨"FenceYards$Trace", "leave", "(I)V"⟩), ("FenceYards$Strip", 19, ⟨"FenceYards$Trace", "leave", "(I)V"⟩), ("FenceYards$Clover", 16, ⟨"FenceYards$Trace", "leave", "(I)V"⟩), ("FenceYards$Grass", 16, ⟨"FenceYards$Trace", "leave", "(I)V"⟩), ("FenceYards", 263, ⟨"FenceYards$Trace", "numberAt", "(I)I"⟩), ("FenceYards", 266, ⟨"FenceYards$Rows", "present", "()I"⟩)]
def nD : List MethodName := [⟨"FenceYards$Strip", "cropOn", "(I)I"⟩, ⟨"FenceYards$Strip", "kindNumber", "()I"⟩]
def nY : List (String × String) := [("FenceYards$Apple", "FenceYards$Bean"), ("FenceYards$Rye", "FenceYards$Bean"), ("FenceYards$Clover", "FenceYards$Grass"), ("FenceYards$Bean", "FenceYards$Strip"), ("FenceYards$Apple", "FenceYards$Strip"), ("FenceYards$Rye", "FenceYards$Strip"), ("FenceYards$Grass", "FenceYards$Strip"), ("FenceYards$Clover", "FenceYards$Strip")]
def nN : List (String × String) := [("FenceYards$Bean", "FenceYards$Apple"), ("FenceYards$Clover", "FenceYards$Apple"), ("FenceYards$Grass", "FenceYards$Apple"), ("FenceYards$Rye", "FenceYards$Apple"), ("FenceYards$Clover", "FenceYards$Bean"), ("FenceYards$Grass", "FenceYards$Bean"), ("FenceYards$Apple", "FenceYards$Clover"), ("FenceYards$Bean", "FenceYards$Clover"), ("FenceYards$Grass", "FenceYards$Clover"), ("FenceYards$Rye", "FenceYards$Clover"), ("FenceYards$Apple", "FenceYards$Grass"), ("FenceYards$Bean", "FenceYards$Grass"), ("FenceYards$Rye", "FenceYards$Grass"), ("FenceYards$Apple", "FenceYards$Rye"), ("FenceYards$Bean", "FenceYards$Rye"), ("FenceYards$Clover", "FenceYards$Rye"), ("FenceYards$Grass", "FenceYards$Rye")]
def sIx : List Nat := [62, 41, 53, 100, 102, 104, 106, 108]
def sTx : List String := ["fence", "pond", "strip", "bean", "apple", "rye", "grass", "clover"]
def sLn : List Nat := [5, 4, 5, 4, 5, 3, 5, 6]
def sBy : List (List Int32) := [[102, 101, 110, 99, 101], [112, 111, 110, 100], [115, 116, 114, 105, 112], [98, 101, 97, 110], [97, 112, 112, 108, 101], [114, 121, 101], [103, 114, 97, 115, 115], [99, 108, 111, 118, 101, 114]]
/-! ===== what all methods know: links of nest mates, statics, texts ===== -/
abbrev GT : Type := Nat × va_G × (Nat → ClassId) × (Nat → Nat) × (Nat → Nat) × Nat
abbrev gA (G : GT) : Nat → Prop := fun q => G.1 ≤ q
def tys (cy : Nat → ClassId) : List (ClassId × FieldType) := [(cy 0, .byte), (cy 1, .int), (cy 2, .long), (cy 3, .boolean), (cy 4, .object "FenceYards$Strip"), (cy 5, .array .int)]
def hyI (k : Nat) : Int32 := ([0, 27720, 13860, 9240, 6930, 5544, 4620, 3960, 3465, 3080, 2772, 2520, 2310] : List Int32).getD k 0
def hyV : Nat → Value := fun k => .int (hyI k)
def GlT (U : State) : Prop := (∀ t ∈ nF, va_Nw (.fieldLinkNest t.1 t.2.1 t.2.2.1 t.2.2.2.1 t.2.2.2.2 "FenceYards") U) ∧ (∀ t ∈ nM, va_Nw (.methodLinkNest t.1 t.2.1 t.2.2 "FenceYards") U) ∧ (∀ x ∈ nD, va_Nw (.declares x) U) ∧ (∀ t ∈ nY, va_Nw (.castable t.1 t.2) U) ∧ (∀ t ∈ nN, va_Nc t.1 t.2 U) ∧ ∀ C, C ∈ ["FenceYards$Strip"] → va_AO C U
def GlR (G : GT) (U : State) : Prop := ∀ i, i < 8 → vk_R "FenceYards$Reader" (sIx.getD i 0) (sTx.getD i "") (G.2.2.2.1 i) U
def GlH (G : GT) (U : State) (H : Heap) : Prop := va_Z "FenceYards" "HALF_YARD" "[I" (.ref G.2.2.2.2.2) (gA G) U H ∧ va_T .int G.2.2.2.2.2 13 hyV (gA G) U H ∧ vk_S 8 sLn sBy G.2.2.2.1 G.2.2.2.2.1 (gA G) U H ∧ va_Z "java/lang/String" "COMPACT_STRINGS" "Z" (.int 1) (gA G) U H ∧ va_Zq "jdk/internal/util/Preconditions" "SIOOBE_FORMATTER" "Ljava/util/function/BiFunction;" (gA G) U H
def Gl (G : GT) (U : State) : Prop := GlT U ∧ GlR G U ∧ GlH G U U.heap
theorem GlT.warm {s U : State} (hW : s.WarmedH U.vm) (h : GlT s) : GlT U := by
  obtain ⟨h1, h2, h3, h4, h5, h6⟩ := h
  exact ⟨fun t ht => (h1 t ht).warmF hW, fun t ht => (h2 t ht).warmM hW, fun t ht => (h3 t ht).warmD hW, fun t ht => (h4 t ht).warmC hW, fun t ht => (h5 t ht).moved hW.alike, fun C hC => (h6 C hC).moved hW.alike⟩
theorem GlT.same {s U : State} (hv : s.vm = U.vm) (h : GlT s) : GlT U := by
  obtain ⟨h1, h2, h3, h4, h5, h6⟩ := h
  have ha : s.vm.Alike U.vm := by rw [hv]; exact Vm.Alike.refl _
  exact ⟨fun t ht => (h1 t ht).same rfl hv, fun t ht => (h2 t ht).same rfl hv, fun t ht => (h3 t ht).same rfl hv, fun t ht => (h4 t ht).same rfl hv, fun t ht => (h5 t ht).moved ha, fun C hC => (h6 C hC).moved ha⟩
theorem GlH.to {G : GT} {s U : State} {H H1 : Heap} (ha : s.vm.Alike U.vm) (hq : ∀ a : Nat, a < H.size → ¬ gA G a → H1[a]? = H[a]?) (h : GlH G s H) : GlH G U H1 := by
  obtain ⟨h1, h2, h3, h4, h5⟩ := h
  exact ⟨(h1.moved ha).kept hq, (h2.moved ha).kept hq, (h3.moved ha).kept hq, (h4.moved ha).kept hq, (h5.moved ha).kept hq⟩
def Inv (G : GT) (s : State) (σ : Hp) (H : Heap) (locs : List Loc) : Prop := va_P G.2.1 vwCl (wd G.1 G.2.2.1 σ) H ∧ H.size = G.1 + gT σ ∧ va_S (gA G) s.heap H locs ∧ WF σ
def Cpre (G : GT) (σ : Hp) (U : State) : Prop := va_K G.2.1 vwCl (tys G.2.2.1) U ∧ va_P G.2.1 vwCl (wd G.1 G.2.2.1 σ) U.heap ∧ U.heap.size = G.1 + gT σ ∧ WF σ ∧ Gl G U
theorem Cpre.blind {G : GT} {σ : Hp} {av : List Value} : FrameBlind (va_Pc av (Cpre G σ)) := by
  intro a U g mk h
  obtain ⟨h0, h1, h2, h3, h4, h5, h6, h7⟩ := h
  have ha : U.vm.Alike (U.calling g mk a).vm := Vm.Alike.refl U.vm
  exact ⟨h0, va_K.moved (u := U) (U := U.calling g mk a) ha h1, h2, h3, h4, GlT.same (s := U) (U := U.calling g mk a) rfl h5, fun i hi => vk_R.same (u := U) (U := U.calling g mk a) rfl (h6 i hi), GlH.to (s := U) (U := U.calling g mk a) (H := U.heap) ha (fun _ _ _ => rfl) h7⟩
/-- what a method stands on -/
def Cx (G : GT) (cc : ByteArray) (own : String) (Ts : List Cond) (nL : Nat) (ret : Option FieldType) (p : Program) (s : State) (m : MethodId) (args : Array Value) (meth : Method) (c : Code) : Prop :=
  p.tables.exec = Jvm.exec ∧ c.code = cc ∧ meth.sig.returnType = ret ∧ c.maxLocals = nL ∧ s.vm.findClass own = some m.cls ∧ (∀ w ∈ Ts, w.before args s = true) ∧ meth.locks = false ∧ va_K G.2.1 vwCl (tys G.2.2.1) s ∧ Gl G s
theorem cpre_of {G : GT} {s t : State} {σ : Hp} {H : Heap} {locs : List Loc} (hK : va_K G.2.1 vwCl (tys G.2.2.1) s) (hG : Gl G s) (hI : Inv G s σ H locs) (ht : t.heap = H) (hW : s.WarmedH t.vm) : Cpre G σ t := by
  subst ht
  exact ⟨hK.moved hW.alike, hI.1, hI.2.1, hI.2.2.2, hG.1.warm hW, fun i hi => (hG.2.1 i hi).warm hW, hG.2.2.to hW.alike hI.2.2.1.2.1⟩
def QI (G : GT) (σ : Hp) (r : Int32) : Array Value → State → Outcome → State → Prop := va_Qi (fun x (_ : Unit) => x = r) (fun _ t => Cpre G σ t) (gA G)
def QL (G : GT) (σ : Hp) (r : Int64) : Array Value → State → Outcome → State → Prop := va_Ql (fun x (_ : Unit) => x = r) (fun _ t => Cpre G σ t) (gA G)
def QV (G : GT) (σ : Hp) : Array Value → State → Outcome → State → Prop := va_Qv (fun (_ : Unit) => True) (fun _ t => Cpre G σ t) (gA G)
def QQ (G : GT) (σ : Hp) (r : Option Nat) : Array Value → State → Outcome → State → Prop := va_Qq (fun x (_ : Unit) => x = r.map (fun z => G.1 + z)) (fun _ t => Cpre G σ t) (gA G)
abbrev MetG (G : GT) (l : Launch) (y : MethodName) (ws : List Cond) (rm : Room) (σ : Hp) (av : List Value) (Qc : Array Value → State → Outcome → State → Prop) : Prop := Met l y ws rm (va_Pc av (Cpre G σ)) Qc rm.cells rm.slots (gA G)
abbrev rmk (f l : Nat) : Room := { frames := f, cells := 0, slots := 0, locals := l }
abbrev rmc (f c s l : Nat) : Room := { frames := f, cells := c, slots := s, locals := l }
theorem met_of {G : GT} {l : Launch} {y : MethodName} {ws ws' : List Cond} {rm : Room} {σ : Hp} {av : List Value} {Qc : Array Value → State → Outcome → State → Prop} {cc : ByteArray} {nL : Nat} {ret : Option FieldType} (hy : plainName y.cls = true) (hw : ws = Cond.code y cc nL ret :: ws') (hn : (lg_sl av).length ≤ nL)
    (body : ∀ (p : Program) (e : Env) (s : State) (m : MethodId) (below : List Frame) (meth : Method) (c : Code), Cx G cc y.cls ws nL ret p s m av.toArray meth c → meth.name = y.name → Inv G s σ s.heap [] → ∀ ls : Array Slot, lv_has ls nL (lv_args 0 av) → W p l e rm s m av.toArray below meth c s.heap [] 0 0 (MQ below Qc av.toArray s rm.cells rm.slots (gA G)) (F0 m 0 ls [])) : MetG G l y ws rm σ av Qc := by
  refine Met.ofW (cc := cc) (maxL := nL) (ret := ret) hy hw ?_
  intro p e s m args below meth c s₁ B hml hv
  obtain ⟨rfl, h1, h2, h3, h4, h5⟩ := hv
  rw [lg_entry_eq]
  exact body p e s m below meth c ⟨B.exec, B.bytes, B.returns, hml, findClass_of_methodNamed B.named, atoms_spec (ws := ws) B.pre, B.notSynchronized, h1, h5⟩ (name_of_methodNamed B.named B.method).1 ⟨h2, h3, va_S.rf, h4⟩ _ (lv_entry av hn)
theorem isG_27 : isG 27 := Or.inl rfl
theorem isG_33 : isG 33 := Or.inr (Or.inl rfl)
theorem isW_of {i : Int32} (h : inb i 8) : isW (3 + i.toNatClampNeg) := ⟨Nat.le_add_right _ _, by have : i.toNatClampNeg = i.toInt.toNat := rfl; omega⟩
abbrev okS (σ : Hp) (q : Nat) : Prop := 67 ≤ q ∧ okK (gK σ q)
abbrev okO (σ : Hp) (r : Option Nat) : Prop := r = none ∨ okS σ (r.getD 0)
theorem kd_S {σ : Hp} {q k : Nat} (h : okS σ q) (hk : gK σ q = k) : kd σ q = (k, 0) := by
  unfold kd
  rw [if_neg (by omega), hk]
abbrev cpok (sp dp n : Int32) (n0 n1 : Nat) : Prop := ¬ sp < 0 ∧ ¬ dp < 0 ∧ ¬ n < 0 ∧ sp.toNatClampNeg + n.toNatClampNeg ≤ n0 ∧ dp.toNatClampNeg + n.toNatClampNeg ≤ n1
theorem ok_on {β : Type} {n : Option β} {k : Nat → Option β} {y : β} (h : opc none n k = some y) : n = some y := h
theorem ok_os {β : Type} {n : Option β} {k : Nat → Option β} {q : Nat} {y : β} (h : opc (some q) n k = some y) : k q = some y := h
theorem nar_Z {v : Int32} (h : v = 0 ∨ v = 1) : narrow .boolean (.int v) = .int v := by rcases h with rfl | rfl <;> rfl
theorem fit_Z {v : Int32} (h : v = 0 ∨ v = 1) : fits .boolean (.int v) = true := by rcases h with rfl | rfl <;> rfl
theorem sw_ne {x : Int32} {k : Nat} (hk : k < 2 ^ 31) (h : ¬ x = nI k) : x.toInt ≠ (k : Int) := fun e => h (Int32.toInt_inj.mp (by rw [e, nI_toInt hk]))
theorem WF_R6 {σ : Hp} {g : Nat} (hg : isG g) (h : WF σ) : WF (sR σ 0 6 (some g)) := ⟨h.1, hg, h.2.2.1, h.2.2.2⟩
theorem WF_R7 {σ : Hp} {g : Nat} (hg : isG g) (h : WF σ) : WF (sR σ 0 7 (some g)) := ⟨h.1, h.2.1, hg, h.2.2.2⟩
theorem WF_sR {σ : Hp} {q k n : Nat} {r : Option Nat} (hk : kd σ q = (16, n)) (h : WF σ) : WF (sR σ q k r) := by
  have hq : (0 : Nat) ≠ q := by
    intro e
    subst e
    rw [show kd σ 0 = (10, 0) from rfl] at hk
    cases hk
  have e : gR (sR σ q k r) 0 = gR σ 0 := up_ne hq
  refine ⟨h.1, ?_, ?_, h.2.2.2⟩
  · unfold lnd
    rw [e]
    exact h.2.1
  · unfold spr
    rw [e]
    exact h.2.2.1
theorem WF_new {σ : Hp} {k : Nat} (h : WF σ) (hk : okK k) : WF (nS σ k) := ⟨Nat.le_succ_of_le h.1, h.2.1, h.2.2.1, fun q hq => (up_ne (by have : gT (nS σ k) = gT σ + 1 := rfl; omega)).trans (h.2.2.2 q (by have : gT (nS σ k) = gT σ + 1 := rfl; omega))⟩
theorem wd_new {b : Nat} {cy : Nat → ClassId} {σ : Hp} {k : Nat} (h : WF σ) (hk : okK k) : wd b cy (nS σ k) = wd b cy σ ++ [(b + gT σ, .inr (k, [.int 0, .int 0, .int 0]))] := by
  have hT : gT (nS σ k) = gT σ + 1 := rfl
  have hl := wd_len (b := b) (cy := cy) (σ := σ)
  apply List.ext_getElem?
  intro x
  by_cases hx : x < gT σ
  · rw [List.getElem?_append_left (by rw [hl]; exact hx), wd_at hx, wd_at (σ := nS σ k) (by rw [hT]; omega)]
    have hne : x ≠ gT σ := by omega
    have e1 : gI (nS σ k) x = gI σ x := up_ne hne
    have e2 : kd (nS σ k) x = kd σ x := by
      unfold kd
      rw [show gK (nS σ k) x = gK σ x from up_ne hne]
    rw [e1, e2]
    rfl
  · rw [List.getElem?_append_right (by rw [hl]; omega), hl]
    by_cases hx2 : x = gT σ
    · subst hx2
      rw [wd_at (σ := nS σ k) (by rw [hT]; omega), Nat.sub_self]
      have e1 : gI (nS σ k) (gT σ) = fun _ => 0 := up_self
      have e2 : kd (nS σ k) (gT σ) = (k, 0) := by
        unfold kd
        rw [if_neg (by have := h.1; omega), show gK (nS σ k) (gT σ) = k from up_self]
      rw [e1, e2]
      rcases hk with rfl | rfl | rfl | rfl | rfl <;> rfl
    · rw [wd_out (σ := nS σ k) (by rw [hT]; omega), List.getElem?_eq_none (by simp; omega)]
theorem asg_of {C E : String} {s : State} (h : va_Nw (.castable C E) s) : ∀ comp c0 : ClassId, s.vm.findClass E = some comp → s.vm.findClass C = some c0 → s.vm.assignable c0 comp = true := by
  intro comp c0 h1 h2
  obtain ⟨a0, t0, f1, f2, f3⟩ := Cond.castable_spec (va_Nw.use (A := #[]) rfl h)
  cases h2.symm.trans f1
  cases h1.symm.trans f2
  exact f3
section ZR
variable {G : GT} {p : Program} {l : Launch} {e : Env} {R : Room} {s : State} {m : MethodId} {args : Array Value} {below : List Frame} {meth : Method} {c : Code} {H : Heap} {locs : List Loc} {cells slots : Nat} {Q : State → Prop}
variable {cc : ByteArray} {pc : Nat} {ls : Array Slot} {rest : List Value} {σ : Hp} {a : Array Value}
theorem z_iret {r : Int32} (hx : p.tables.exec = Jvm.exec) (hb : c.code = cc) (hr : meth.sig.returnType = some .int) (hlk : meth.locks = false) (hK : va_K G.2.1 vwCl (tys G.2.2.1) s) (hG : Gl G s) (hI : Inv G s σ H locs) (hdg : decode cc pc = .ok (.ireturn, 1)) : W p l e R s m args below meth c H locs cells slots (MQ below (QI G σ r) args s cells slots (gA G)) (F0 m pc ls [.int r]) :=
  W.iret hx hb hr (fun t ht hW => ⟨⟨r, (), rfl, rfl, cpre_of hK hG hI ht hW⟩, hI.2.2.1.F ht⟩) hI.2.2.1.2.2 hdg hlk
theorem z_zret {r : Int32} (hx : p.tables.exec = Jvm.exec) (hb : c.code = cc) (hr : meth.sig.returnType = some .boolean) (hlk : meth.locks = false) (hK : va_K G.2.1 vwCl (tys G.2.2.1) s) (hG : Gl G s) (hI : Inv G s σ H locs) (h01 : r = 0 ∨ r = 1) (hdg : decode cc pc = .ok (.ireturn, 1)) : W p l e R s m args below meth c H locs cells slots (MQ below (QI G σ r) args s cells slots (gA G)) (F0 m pc ls [.int r]) :=
  W.zret hx hb hr (by rcases h01 with rfl | rfl <;> rfl) (fun t ht hW => ⟨⟨r, (), rfl, rfl, cpre_of hK hG hI ht hW⟩, hI.2.2.1.F ht⟩) hI.2.2.1.2.2 hdg hlk
theorem z_lret {r : Int64} (hx : p.tables.exec = Jvm.exec) (hb : c.code = cc) (hr : meth.sig.returnType = some .long) (hlk : meth.locks = false) (hK : va_K G.2.1 vwCl (tys G.2.2.1) s) (hG : Gl G s) (hI : Inv G s σ H locs) (hdg : decode cc pc = .ok (.lreturn, 1)) : W p l e R s m args below meth c H locs cells slots (MQ below (QL G σ r) args s cells slots (gA G)) (F0 m pc ls [.long r]) :=
  W.lret hx hb hr (fun t ht hW => ⟨⟨r, (), rfl, rfl, cpre_of hK hG hI ht hW⟩, hI.2.2.1.F ht⟩) hI.2.2.1.2.2 hdg hlk
theorem z_vret (hx : p.tables.exec = Jvm.exec) (hb : c.code = cc) (hr : meth.sig.returnType = none) (hlk : meth.locks = false) (hK : va_K G.2.1 vwCl (tys G.2.2.1) s) (hG : Gl G s) (hI : Inv G s σ H locs) (hdg : decode cc pc = .ok (.return_, 1)) : W p l e R s m args below meth c H locs cells slots (MQ below (QV G σ) args s cells slots (gA G)) (F0 m pc ls []) :=
  W.vret hx hb hr (fun t ht hW => ⟨⟨(), rfl, trivial, cpre_of hK hG hI ht hW⟩, hI.2.2.1.F ht⟩) hI.2.2.1.2.2 hdg hlk
theorem z_aret {r : Option Nat} {C : String} {v : Value} (hv : v = va_rf (r.map (fun z => G.1 + z))) (hx : p.tables.exec = Jvm.exec) (hb : c.code = cc) (hr : meth.sig.returnType = some (.object C)) (hlk : meth.locks = false) (hK : va_K G.2.1 vwCl (tys G.2.2.1) s) (hG : Gl G s) (hI : Inv G s σ H locs) (hdg : decode cc pc = .ok (.areturn, 1)) : W p l e R s m args below meth c H locs cells slots (MQ below (QQ G σ r) args s cells slots (gA G)) (F0 m pc ls [v]) := by
  subst hv
  refine W.aret hx hb hr (Or.inl ⟨_, rfl⟩) ?_ (fun t ht hW => ⟨⟨_, (), rfl, rfl, cpre_of hK hG hI ht hW⟩, hI.2.2.1.F ht⟩) hI.2.2.1.2.2 hdg hlk
  cases r with
  | none => exact Or.inl rfl
  | some q => exact Or.inr ⟨_, rfl⟩
/-! calls -/
theorem z_pre {av : List Value} (hK : va_K G.2.1 vwCl (tys G.2.2.1) s) (hG : Gl G s) (hI : Inv G s σ H locs) : PreS s H (va_Pc av (Cpre G σ)) av := ⟨Cpre.blind, fun U hU hW => ⟨rfl, cpre_of hK hG hI hU hW⟩⟩
theorem z_preV {C : String} {b : Nat} {As : List Value} (hK : va_K G.2.1 vwCl (tys G.2.2.1) s) (hG : Gl G s) (hI : Inv G s σ H locs) (hr : ∃ cellB : Cell, H[b]? = some cellB ∧ cellB.vm.isStatics = false ∧ s.vm.findClass C = some cellB.cls) : PreV s H C b (va_Pc (.ref b :: As) (Cpre G σ)) As := ⟨Cpre.blind, hr, fun U hU hW => ⟨rfl, cpre_of hK hG hI hU hW⟩⟩
/-- the receiver's cell -/
theorem z_rc {q ci n : Nat} {w : vw_C} (hK : va_K G.2.1 vwCl (tys G.2.2.1) s) (hI : Inv G s σ H locs) (hk : kd σ q = (ci, n)) (h12 : ci < 12) (hc : vwCl[ci]? = some w) : ∃ cellB : Cell, H[G.1 + q]? = some cellB ∧ cellB.vm.isStatics = false ∧ s.vm.findClass w.1 = some cellB.cls :=
  va_recv hK hI.1 hc (by rw [wd_at (kd_lt hI.2.2.2 hk (by omega)), hk, ce_obj h12])
theorem inv_call {σ' : Hp} {t : State} {H1 : Heap} {locs1 : List Loc} (ht : t.heap = H1) (hB : Cpre G σ' t) (hS : va_S (gA G) s.heap H1 locs1) : Inv G s σ' H1 locs1 := by
  subst ht
  exact ⟨hB.2.1, hB.2.2.1, hS, hB.2.2.2.1⟩
theorem z_calli {σ' : Hp} {r : Int32} {mc ms : Nat} {st0 : List Value} (hI : Inv G s σ H locs) (hr : va_Run p l e R s m args below meth c H locs cells slots mc ms (F0 m pc ls st0) rest (QI G σ' r a) (gA G))
    (kk : ∀ (H : Heap) (locs : List Loc), Inv G s σ' H locs → W p l e R s m args below meth c H locs (cells + mc) (slots + ms) Q (F0 m (pc + 3) ls (.int r :: rest))) : W p l e R s m args below meth c H locs cells slots Q (F0 m pc ls st0) := by
  refine va_calli hr hI.2.2.1 (fun _ _ h => h) (fun _ h => h) (fun x u t H1 locs1 ht _ hp hB _ _ hS => ?_)
  subst hp
  exact kk H1 locs1 (inv_call ht hB hS)
theorem z_calll {σ' : Hp} {r : Int64} {mc ms : Nat} {st0 : List Value} (hI : Inv G s σ H locs) (hr : va_Run p l e R s m args below meth c H locs cells slots mc ms (F0 m pc ls st0) rest (QL G σ' r a) (gA G))
    (kk : ∀ (H : Heap) (locs : List Loc), Inv G s σ' H locs → W p l e R s m args below meth c H locs (cells + mc) (slots + ms) Q (F0 m (pc + 3) ls (.long r :: rest))) : W p l e R s m args below meth c H locs cells slots Q (F0 m pc ls st0) := by
  refine va_calll hr hI.2.2.1 (fun _ _ h => h) (fun _ h => h) (fun x u t H1 locs1 ht _ hp hB _ _ hS => ?_)
  subst hp
  exact kk H1 locs1 (inv_call ht hB hS)
theorem z_callv {σ' : Hp} {mc ms : Nat} {st0 : List Value} (hI : Inv G s σ H locs) (hr : va_Run p l e R s m args below meth c H locs cells slots mc ms (F0 m pc ls st0) rest (QV G σ' a) (gA G))
    (kk : ∀ (H : Heap) (locs : List Loc), Inv G s σ' H locs → W p l e R s m args below meth c H locs (cells + mc) (slots + ms) Q (F0 m (pc + 3) ls rest)) : W p l e R s m args below meth c H locs cells slots Q (F0 m pc ls st0) := by
  refine va_callv hr hI.2.2.1 (fun _ _ h => h) (fun _ h => h) (fun u t H1 locs1 ht _ hp hB _ _ hS => ?_)
  exact kk H1 locs1 (inv_call ht hB hS)
theorem z_callq {σ' : Hp} {r : Option Nat} {mc ms : Nat} {st0 : List Value} (hI : Inv G s σ H locs) (hr : va_Run p l e R s m args below meth c H locs cells slots mc ms (F0 m pc ls st0) rest (QQ G σ' r a) (gA G))
    (kk : ∀ (H : Heap) (locs : List Loc), Inv G s σ' H locs → W p l e R s m args below meth c H locs (cells + mc) (slots + ms) Q (F0 m (pc + 3) ls (va_rf (r.map (fun z => G.1 + z)) :: rest))) : W p l e R s m args below meth c H locs cells slots Q (F0 m pc ls st0) := by
  refine va_callq hr hI.2.2.1 (fun _ _ h => h) (fun _ h => h) (fun x u t H1 locs1 ht _ hp hB _ _ hS => ?_)
  subst hp
  exact kk H1 locs1 (inv_call ht hB hS)
/-! fields -/
theorem z_get (hx : p.tables.exec = Jvm.exec) (hb : c.code = cc) {own ref C : String} {T : u_T} {N ci n index : Nat} {Ts : List Cond} (hts : ∀ w ∈ Ts, w.before args s = true) (hin : ∀ w ∈ u_ws C T N, w ∈ Ts) (hown : s.vm.findClass own = some m.cls) (hK : va_K G.2.1 vwCl (tys G.2.2.1) s) (hI : Inv G s σ H locs) (q : Nat) (hk : kd σ q = (ci, n)) (h12 : ci < 12) (hc : vwCl[ci]? = some (C, T, N)) (k : Nat) (hkN : k < N) (hlink : (Cond.fieldLink own index ref (T k).2.1 (T k).2.2.1).before args s = true) (hsame : ∀ x, s.fieldFound? (T k).1 (T k).2.1 (T k).2.2.1 = some x → s.fieldFound? ref (T k).2.1 (T k).2.2.1 = some x) {v : Value} (hv : (flds G.1 ci q (gI σ q) (gJ σ q) (gR σ q))[k]? = some v) (hdg : decode cc pc = .ok (.getfield index, 3))
    (kk : W p l e R s m args below meth c H locs cells slots Q (F0 m (pc + 3) ls (v :: rest))) : W p l e R s m args below meth c H locs cells slots Q (F0 m pc ls (.ref (G.1 + q) :: rest)) :=
  va_get hx hb hts hin hown hK hI.1 q (by rw [wd_at (kd_lt hI.2.2.2 hk (by omega)), hk, ce_obj h12]) hc k hkN hlink hsame hv hdg kk
theorem z_getN (hx : p.tables.exec = Jvm.exec) (hb : c.code = cc) {own ref C host : String} {T : u_T} {N ci n index : Nat} {Ts : List Cond} (hts : ∀ w ∈ Ts, w.before args s = true) (hin : ∀ w ∈ u_ws C T N, w ∈ Ts) (hown : s.vm.findClass own = some m.cls) (hK : va_K G.2.1 vwCl (tys G.2.2.1) s) (hI : Inv G s σ H locs) (q : Nat) (hk : kd σ q = (ci, n)) (h12 : ci < 12) (hc : vwCl[ci]? = some (C, T, N)) (k : Nat) (hkN : k < N) (hlink : va_Nw (.fieldLinkNest own index ref (T k).2.1 (T k).2.2.1 host) s) (hsame : ∀ x, s.fieldFound? (T k).1 (T k).2.1 (T k).2.2.1 = some x → s.fieldFound? ref (T k).2.1 (T k).2.2.1 = some x) {v : Value} (hv : (flds G.1 ci q (gI σ q) (gJ σ q) (gR σ q))[k]? = some v) (hdg : decode cc pc = .ok (.getfield index, 3))
    (kk : W p l e R s m args below meth c H locs cells slots Q (F0 m (pc + 3) ls (v :: rest))) : W p l e R s m args below meth c H locs cells slots Q (F0 m pc ls (.ref (G.1 + q) :: rest)) :=
  va_getN hx hb hts hin hown hK hI.1 q (by rw [wd_at (kd_lt hI.2.2.2 hk (by omega)), hk, ce_obj h12]) hc k hkN (va_Nw.use rfl hlink) hsame hv hdg kk
theorem z_put (hx : p.tables.exec = Jvm.exec) (hb : c.code = cc) {own ref C : String} {T : u_T} {N ci n index : Nat} {Ts : List Cond} (hts : ∀ w ∈ Ts, w.before args s = true) (hin : ∀ w ∈ u_ws C T N, w ∈ Ts) (ty0 : Nat → FieldType) (hty : ∀ k, k < N → parseFieldDescriptor (T k).2.2.1 = some (ty0 k)) (hnm : ∀ a, a < N → ∀ b, b < N → a ≠ b → (T a).2.1 ≠ (T b).2.1) (hown : s.vm.findClass own = some m.cls) (hK : va_K G.2.1 vwCl (tys G.2.2.1) s) (hI : Inv G s σ H locs) (q : Nat) (hk : kd σ q = (ci, n)) (h12 : ci < 12) (hc : vwCl[ci]? = some (C, T, N)) (k : Nat) (hkN : k < N) (hlink : (Cond.fieldLink own index ref (T k).2.1 (T k).2.2.1).before args s = true) (hsame : ∀ x, s.fieldFound? (T k).1 (T k).2.1 (T k).2.2.1 = some x → s.fieldFound? ref (T k).2.1 (T k).2.2.1 = some x) (hfin : (T k).2.2.2 = false) {ty : FieldType} {v : Value} (hd : parseFieldDescriptor (T k).2.2.1 = some ty) (hn : narrow ty v = v) (hfit : fits ty v = true) (hl : k < (flds G.1 ci q (gI σ q) (gJ σ q) (gR σ q)).length) {σ1 : Hp} (hset : (wd G.1 G.2.2.1 σ).set q (G.1 + q, .inr (ci, (flds G.1 ci q (gI σ q) (gJ σ q) (gR σ q)).set k v)) = wd G.1 G.2.2.1 σ1) (hT : gT σ1 = gT σ) (hw1 : WF σ1) (hdg : decode cc pc = .ok (.putfield index, 3)) (kk : ∀ (H : Heap) (locs : List Loc), Inv G s σ1 H locs → W p l e R s m args below meth c H locs cells slots Q (F0 m (pc + 3) ls rest)) : W p l e R s m args below meth c H locs cells slots Q (F0 m pc ls (v :: .ref (G.1 + q) :: rest)) := by
  have hlt := kd_lt hI.2.2.2 hk (by omega)
  have he : (wd G.1 G.2.2.1 σ)[q]? = some (G.1 + q, .inr (ci, flds G.1 ci q (gI σ q) (gJ σ q) (gR σ q))) := by rw [wd_at hlt, hk, ce_obj h12]
  have hap := va_apart (own := own) hts hin ty0 hty hnm hK hc
  obtain ⟨r9, g1, cell, g2, g3, g4, g5⟩ := hI.1 q _ he
  obtain rfl : r9 = (C, T, N) := Option.some.inj (g1.symm.trans hc)
  obtain ⟨f1, f2, kC, f3, f4⟩ := hK.1 ci _ hc
  obtain ⟨cf, kf, fi, fd, hi, hsl⟩ := f1 k hkN
  have hlay := hts _ (hin _ (u_in_lay hkN))
  unfold u_lay at hlay
  rw [if_neg (by rw [hfin]; decide)] at hlay
  have hst := (u_facts f2 f3 (u_lays hts hin hkN) hi).1
  have hsd := u_store f2 f3 f4 hlay hi hd hn hfit
  refine W.putK hx hb (f := fd) ⟨hown, hlink, ⟨_, _, _, hsame _ hi⟩, hst⟩ (by rw [g3]; exact hsd) g2 g4 (by rw [hsl]; exact k2_hasslot (g5 k hkN)) rfl rfl hdg (fun H1 e1 e2 e3 => ?_)
  rw [hsl] at e1 ⊢
  have hP1 := hI.1.set wd_D he (e := .inr (ci, (flds G.1 ci q (gI σ q) (gJ σ q) (gR σ q)).set k v)) ⟨_, hc, t_OB.to (V := updV (vp_V (flds G.1 ci q (gI σ q) (gJ σ q) (gR σ q))) k v) ⟨_, e1, g3, g4, t_set g5 hap hkN v⟩ (fun j _ => vp_updV_set hl v j)⟩ e3
  rw [hset] at hP1
  exact kk H1 _ ⟨hP1, by rw [e2, hT]; exact hI.2.1, hI.2.2.1.put e2 e3 (Nat.le_add_right _ _), hw1⟩
theorem z_putN (hx : p.tables.exec = Jvm.exec) (hb : c.code = cc) {own ref C : String} {T : u_T} {N ci n index : Nat} {Ts : List Cond} (hts : ∀ w ∈ Ts, w.before args s = true) (hin : ∀ w ∈ u_ws C T N, w ∈ Ts) (ty0 : Nat → FieldType) (hty : ∀ k, k < N → parseFieldDescriptor (T k).2.2.1 = some (ty0 k)) (hnm : ∀ a, a < N → ∀ b, b < N → a ≠ b → (T a).2.1 ≠ (T b).2.1) (hown : s.vm.findClass own = some m.cls) (hK : va_K G.2.1 vwCl (tys G.2.2.1) s) (hI : Inv G s σ H locs) (q : Nat) (hk : kd σ q = (ci, n)) (h12 : ci < 12) (hc : vwCl[ci]? = some (C, T, N)) (k : Nat) (hkN : k < N) {host : String} (hlink : va_Nw (.fieldLinkNest own index ref (T k).2.1 (T k).2.2.1 host) s) (hsame : ∀ x, s.fieldFound? (T k).1 (T k).2.1 (T k).2.2.1 = some x → s.fieldFound? ref (T k).2.1 (T k).2.2.1 = some x) (hfin : (T k).2.2.2 = false) {ty : FieldType} {v : Value} (hd : parseFieldDescriptor (T k).2.2.1 = some ty) (hn : narrow ty v = v) (hfit : fits ty v = true) (hl : k < (flds G.1 ci q (gI σ q) (gJ σ q) (gR σ q)).length) {σ1 : Hp} (hset : (wd G.1 G.2.2.1 σ).set q (G.1 + q, .inr (ci, (flds G.1 ci q (gI σ q) (gJ σ q) (gR σ q)).set k v)) = wd G.1 G.2.2.1 σ1) (hT : gT σ1 = gT σ) (hw1 : WF σ1) (hdg : decode cc pc = .ok (.putfield index, 3)) (kk : ∀ (H : Heap) (locs : List Loc), Inv G s σ1 H locs → W p l e R s m args below meth c H locs cells slots Q (F0 m (pc + 3) ls rest)) : W p l e R s m args below meth c H locs cells slots Q (F0 m pc ls (v :: .ref (G.1 + q) :: rest)) := by
  have hlt := kd_lt hI.2.2.2 hk (by omega)
  have he : (wd G.1 G.2.2.1 σ)[q]? = some (G.1 + q, .inr (ci, flds G.1 ci q (gI σ q) (gJ σ q) (gR σ q))) := by rw [wd_at hlt, hk, ce_obj h12]
  have hap := va_apart (own := own) hts hin ty0 hty hnm hK hc
  obtain ⟨r9, g1, cell, g2, g3, g4, g5⟩ := hI.1 q _ he
  obtain rfl : r9 = (C, T, N) := Option.some.inj (g1.symm.trans hc)
  obtain ⟨f1, f2, kC, f3, f4⟩ := hK.1 ci _ hc
  obtain ⟨cf, kf, fi, fd, hi, hsl⟩ := f1 k hkN
  have hlay := hts _ (hin _ (u_in_lay hkN))
  unfold u_lay at hlay
  rw [if_neg (by rw [hfin]; decide)] at hlay
  have hst := (u_facts f2 f3 (u_lays hts hin hkN) hi).1
  have hsd := u_store f2 f3 f4 hlay hi hd hn hfit
  refine va_WputK hx hb hown (va_Nw.use rfl hlink) (hsame _ hi) hst (by rw [g3]; exact hsd) g2 g4 (by rw [hsl]; exact k2_hasslot (g5 k hkN)) rfl rfl hdg (fun H1 e1 e2 e3 => ?_)
  rw [hsl] at e1 ⊢
  have hP1 := hI.1.set wd_D he (e := .inr (ci, (flds G.1 ci q (gI σ q) (gJ σ q) (gR σ q)).set k v)) ⟨_, hc, t_OB.to (V := updV (vp_V (flds G.1 ci q (gI σ q) (gJ σ q) (gR σ q))) k v) ⟨_, e1, g3, g4, t_set g5 hap hkN v⟩ (fun j _ => vp_updV_set hl v j)⟩ e3
  rw [hset] at hP1
  exact kk H1 _ ⟨hP1, by rw [e2, hT]; exact hI.2.1, hI.2.2.1.put e2 e3 (Nat.le_add_right _ _), hw1⟩
theorem set_I {b ci n q k : Nat} {cy : Nat → ClassId} {σ : Hp} {v : Int32} (hw : WF σ) (hk : kd σ q = (ci, n)) (h12 : ci < 12) (h : (flds b ci q (gI σ q) (gJ σ q) (gR σ q)).set k (.int v) = flds b ci q (upd (gI σ q) k v) (gJ σ q) (gR σ q)) : (wd b cy σ).set q (b + q, .inr (ci, (flds b ci q (gI σ q) (gJ σ q) (gR σ q)).set k (.int v))) = wd b cy (sI σ q k v) :=
  wd_rI (kd_lt hw hk (by omega)) (by rw [hk, ce_obj h12, h])
theorem set_J {b ci n q k : Nat} {cy : Nat → ClassId} {σ : Hp} {v : Int64} (hw : WF σ) (hk : kd σ q = (ci, n)) (h12 : ci < 12) (h : (flds b ci q (gI σ q) (gJ σ q) (gR σ q)).set k (.long v) = flds b ci q (gI σ q) (vp_updL (gJ σ q) k v) (gR σ q)) : (wd b cy σ).set q (b + q, .inr (ci, (flds b ci q (gI σ q) (gJ σ q) (gR σ q)).set k (.long v))) = wd b cy (sJ σ q k v) :=
  wd_rJ (kd_lt hw hk (by omega)) (by rw [hk, ce_obj h12, h])
theorem set_R {b ci n q k z : Nat} {cy : Nat → ClassId} {σ : Hp} (hw : WF σ) (hk : kd σ q = (ci, n)) (h12 : ci < 12) (h : (flds b ci q (gI σ q) (gJ σ q) (gR σ q)).set k (.ref (b + z)) = flds b ci q (gI σ q) (gJ σ q) (va_up (gR σ q) k (some z))) : (wd b cy σ).set q (b + q, .inr (ci, (flds b ci q (gI σ q) (gJ σ q) (gR σ q)).set k (.ref (b + z)))) = wd b cy (sR σ q k (some z)) :=
  wd_rR (kd_lt hw hk (by omega)) (by rw [hk, ce_obj h12, h])
/-- with no cell made so far the heap is as large as at the start -/
theorem z_sz {g : JFrame} (hle : s.heap.size ≤ H.size) (kk : H.size = s.heap.size → W p l e R s m args below meth c H locs 0 slots Q g) : W p l e R s m args below meth c H locs 0 slots Q g := fun T hT X => kk (Nat.le_antisymm (by have := X.heapSize; rw [hT] at this; exact this) hle) T hT X
theorem z_iald (hx : p.tables.exec = Jvm.exec) (hb : c.code = cc) (hK : va_K G.2.1 vwCl (tys G.2.2.1) s) (hI : Inv G s σ H locs) (q : Nat) {n k : Nat} (hk : kd σ q = (13, n)) {i : Int32} (hin : inb i n) (hi : i.toNatClampNeg = k) (hdg : decode cc pc = .ok (.iaload, 1))
    (kk : W p l e R s m args below meth c H locs cells slots Q (F0 m (pc + 1) ls (.int (gI σ q k) :: rest))) : W p l e R s m args below meth c H locs cells slots Q (F0 m pc ls (.int i :: .ref (G.1 + q) :: rest)) := by
  subst hi
  exact va_iald hx hb hK hI.1 q 1 (by rw [wd_at (kd_lt hI.2.2.2 hk (by decide)), hk]; rfl) rfl (inb_in hin) hdg kk
theorem z_bald (hx : p.tables.exec = Jvm.exec) (hb : c.code = cc) (hK : va_K G.2.1 vwCl (tys G.2.2.1) s) (hI : Inv G s σ H locs) (q : Nat) {n k : Nat} (hk : kd σ q = (12, n)) {i : Int32} (hin : inb i n) (hi : i.toNatClampNeg = k) (hdg : decode cc pc = .ok (.baload, 1))
    (kk : W p l e R s m args below meth c H locs cells slots Q (F0 m (pc + 1) ls (.int (gI σ q k) :: rest))) : W p l e R s m args below meth c H locs cells slots Q (F0 m pc ls (.int i :: .ref (G.1 + q) :: rest)) := by
  subst hi
  exact va_bald hx hb hK hI.1 q 0 (by rw [wd_at (kd_lt hI.2.2.2 hk (by decide)), hk]; rfl) rfl (inb_in hin) hdg kk
theorem z_zald (hx : p.tables.exec = Jvm.exec) (hb : c.code = cc) (hK : va_K G.2.1 vwCl (tys G.2.2.1) s) (hI : Inv G s σ H locs) (q : Nat) {n k : Nat} (hk : kd σ q = (15, n)) {i : Int32} (hin : inb i n) (hi : i.toNatClampNeg = k) (hdg : decode cc pc = .ok (.baload, 1))
    (kk : W p l e R s m args below meth c H locs cells slots Q (F0 m (pc + 1) ls (.int (gI σ q k) :: rest))) : W p l e R s m args below meth c H locs cells slots Q (F0 m pc ls (.int i :: .ref (G.1 + q) :: rest)) := by
  subst hi
  exact va_zald hx hb hK hI.1 q 3 (by rw [wd_at (kd_lt hI.2.2.2 hk (by decide)), hk]; rfl) rfl (inb_in hin) hdg kk
theorem z_lald (hx : p.tables.exec = Jvm.exec) (hb : c.code = cc) (hK : va_K G.2.1 vwCl (tys G.2.2.1) s) (hI : Inv G s σ H locs) (q : Nat) {n k : Nat} (hk : kd σ q = (14, n)) {i : Int32} (hin : inb i n) (hi : i.toNatClampNeg = k) (hdg : decode cc pc = .ok (.laload, 1))
    (kk : W p l e R s m args below meth c H locs cells slots Q (F0 m (pc + 1) ls (.long (gJ σ q k) :: rest))) : W p l e R s m args below meth c H locs cells slots Q (F0 m pc ls (.int i :: .ref (G.1 + q) :: rest)) := by
  subst hi
  exact va_lald hx hb hK hI.1 q 2 (by rw [wd_at (kd_lt hI.2.2.2 hk (by decide)), hk]; rfl) rfl (inb_in hin) hdg kk
theorem z_ald (hx : p.tables.exec = Jvm.exec) (hb : c.code = cc) (hK : va_K G.2.1 vwCl (tys G.2.2.1) s) (hI : Inv G s σ H locs) (q : Nat) {n k : Nat} (hk : kd σ q = (16, n)) {i : Int32} (hin : inb i n) (hi : i.toNatClampNeg = k) (hdg : decode cc pc = .ok (.aaload, 1))
    (kk : W p l e R s m args below meth c H locs cells slots Q (F0 m (pc + 1) ls (va_rf ((gR σ q k).map (fun z => G.1 + z)) :: rest))) : W p l e R s m args below meth c H locs cells slots Q (F0 m pc ls (.int i :: .ref (G.1 + q) :: rest)) := by
  subst hi
  exact va_aldq hx hb hK hI.1 q 4 (by rw [wd_at (kd_lt hI.2.2.2 hk (by decide)), hk]; rfl) rfl (inb_in hin) hdg kk
theorem z_aldW (hx : p.tables.exec = Jvm.exec) (hb : c.code = cc) (hK : va_K G.2.1 vwCl (tys G.2.2.1) s) (hI : Inv G s σ H locs) {k : Nat} {i : Int32} (hin : inb i 8) (hi : i.toNatClampNeg = k) (hdg : decode cc pc = .ok (.aaload, 1))
    (kk : W p l e R s m args below meth c H locs cells slots Q (F0 m (pc + 1) ls (.ref (G.1 + (3 + k)) :: rest))) : W p l e R s m args below meth c H locs cells slots Q (F0 m pc ls (.int i :: .ref (G.1 + 2) :: rest)) := by
  subst hi
  have hin9 := inb_in hin
  have hlt : i.toNatClampNeg < 8 := Nat.not_le.mp fun q => hin9 (Or.inr q)
  have hP := hI.1 2 (G.1 + 2, .inl (G.2.2.1 5, 8, .inr (.inr (.inr (.inr (fun k => if k < 8 then some (G.1 + (3 + k)) else none)))))) (by rw [wd_at (kd_lt (c := 17) (n := 8) hI.2.2.2 rfl (by decide))]; rfl)
  exact W.aald (v := .ref (G.1 + (3 + i.toNatClampNeg))) (ty := .array .int) hx hb hP ((hK.2 5 _ rfl).1 8 (fun j => va_rf (if j < 8 then some (G.1 + (3 + j)) else none))) rfl (fun q => by cases q) (by show ¬ (i < 0 ∨ (arrV _ _ _).slots.size ≤ _); rw [arrV_size]; exact hin9) (by show (arrV _ _ _).slots[_]? = _; rw [arrV_read _ _ hlt]; show some (va_rf (if i.toNatClampNeg < 8 then some (G.1 + (3 + i.toNatClampNeg)) else none)) = _; rw [if_pos hlt]; rfl) rfl rfl hdg kk
theorem z_alen (hx : p.tables.exec = Jvm.exec) (hb : c.code = cc) (hK : va_K G.2.1 vwCl (tys G.2.2.1) s) (hI : Inv G s σ H locs) (q : Nat) {n : Nat} (hk : kd σ q = (13, n)) {v : Int32} (hv : Int32.ofNat n = v) (hdg : decode cc pc = .ok (.arraylength, 1))
    (kk : W p l e R s m args below meth c H locs cells slots Q (F0 m (pc + 1) ls (.int v :: rest))) : W p l e R s m args below meth c H locs cells slots Q (F0 m pc ls (.ref (G.1 + q) :: rest)) :=
  va_alen (x := (n, .inl (gI σ q))) hx hb hK hI.1 q 1 (by rw [wd_at (kd_lt hI.2.2.2 hk (by decide)), hk]; rfl) rfl hv hdg kk
theorem z_iast (hx : p.tables.exec = Jvm.exec) (hb : c.code = cc) (hK : va_K G.2.1 vwCl (tys G.2.2.1) s) (hI : Inv G s σ H locs) (q : Nat) {n k : Nat} (hk : kd σ q = (13, n)) {i : Int32} {x : Int32} (hin : inb i n) (hi : i.toNatClampNeg = k) (hdg : decode cc pc = .ok (.iastore, 1))
    (kk : ∀ (H : Heap) (locs : List Loc), Inv G s (sI σ q k x) H locs → W p l e R s m args below meth c H locs 0 slots Q (F0 m (pc + 1) ls rest)) : W p l e R s m args below meth c H locs 0 slots Q (F0 m pc ls (.int x :: .int i :: .ref (G.1 + q) :: rest)) := by
  subst hi
  have hlt := kd_lt hI.2.2.2 hk (by decide)
  refine z_sz hI.2.2.1.1 (fun e0 => ?_)
  refine va_iast hx hb hK hI.1 wd_D hI.2.2.1 q 1 (by rw [wd_at hlt, hk]; rfl) rfl (inb_in hin) hdg (fun H1 locs1 hP hD hS => ?_)
  refine z_sz hS.1 (fun e1 => ?_)
  rw [wd_rI (f := upd (gI σ q) i.toNatClampNeg x) hlt (by rw [hk]; rfl)] at hP
  exact kk H1 locs1 ⟨hP, e1.trans (e0.symm.trans hI.2.1), hS, hI.2.2.2⟩
theorem z_bast (hx : p.tables.exec = Jvm.exec) (hb : c.code = cc) (hK : va_K G.2.1 vwCl (tys G.2.2.1) s) (hI : Inv G s σ H locs) (q : Nat) {n k : Nat} (hk : kd σ q = (12, n)) {i : Int32} {x : Int32} (hin : inb i n) (hi : i.toNatClampNeg = k) (hdg : decode cc pc = .ok (.bastore, 1))
    (kk : ∀ (H : Heap) (locs : List Loc), Inv G s (sI σ q k (vp_nar .byte x)) H locs → W p l e R s m args below meth c H locs 0 slots Q (F0 m (pc + 1) ls rest)) : W p l e R s m args below meth c H locs 0 slots Q (F0 m pc ls (.int x :: .int i :: .ref (G.1 + q) :: rest)) := by
  subst hi
  have hlt := kd_lt hI.2.2.2 hk (by decide)
  refine z_sz hI.2.2.1.1 (fun e0 => ?_)
  refine va_bast hx hb hK hI.1 wd_D hI.2.2.1 q 0 (by rw [wd_at hlt, hk]; rfl) rfl (inb_in hin) hdg (fun H1 locs1 hP hD hS => ?_)
  refine z_sz hS.1 (fun e1 => ?_)
  rw [wd_rI (f := upd (gI σ q) i.toNatClampNeg (vp_nar .byte x)) hlt (by rw [hk]; rfl)] at hP
  exact kk H1 locs1 ⟨hP, e1.trans (e0.symm.trans hI.2.1), hS, hI.2.2.2⟩
theorem z_zast (hx : p.tables.exec = Jvm.exec) (hb : c.code = cc) (hK : va_K G.2.1 vwCl (tys G.2.2.1) s) (hI : Inv G s σ H locs) (q : Nat) {n k : Nat} (hk : kd σ q = (15, n)) {i : Int32} {x : Int32} (hin : inb i n) (hi : i.toNatClampNeg = k) (hdg : decode cc pc = .ok (.bastore, 1))
    (kk : ∀ (H : Heap) (locs : List Loc), Inv G s (sI σ q k (vp_nar .boolean x)) H locs → W p l e R s m args below meth c H locs 0 slots Q (F0 m (pc + 1) ls rest)) : W p l e R s m args below meth c H locs 0 slots Q (F0 m pc ls (.int x :: .int i :: .ref (G.1 + q) :: rest)) := by
  subst hi
  have hlt := kd_lt hI.2.2.2 hk (by decide)
  refine z_sz hI.2.2.1.1 (fun e0 => ?_)
  refine va_zast hx hb hK hI.1 wd_D hI.2.2.1 q 3 (by rw [wd_at hlt, hk]; rfl) rfl (inb_in hin) hdg (fun H1 locs1 hP hD hS => ?_)
  refine z_sz hS.1 (fun e1 => ?_)
  rw [wd_rI (f := upd (gI σ q) i.toNatClampNeg (vp_nar .boolean x)) hlt (by rw [hk]; rfl)] at hP
  exact kk H1 locs1 ⟨hP, e1.trans (e0.symm.trans hI.2.1), hS, hI.2.2.2⟩
theorem z_last (hx : p.tables.exec = Jvm.exec) (hb : c.code = cc) (hK : va_K G.2.1 vwCl (tys G.2.2.1) s) (hI : Inv G s σ H locs) (q : Nat) {n k : Nat} (hk : kd σ q = (14, n)) {i : Int32} {x : Int64} (hin : inb i n) (hi : i.toNatClampNeg = k) (hdg : decode cc pc = .ok (.lastore, 1))
    (kk : ∀ (H : Heap) (locs : List Loc), Inv G s (sJ σ q k x) H locs → W p l e R s m args below meth c H locs 0 slots Q (F0 m (pc + 1) ls rest)) : W p l e R s m args below meth c H locs 0 slots Q (F0 m pc ls (.long x :: .int i :: .ref (G.1 + q) :: rest)) := by
  subst hi
  have hlt := kd_lt hI.2.2.2 hk (by decide)
  refine z_sz hI.2.2.1.1 (fun e0 => ?_)
  refine va_last hx hb hK hI.1 wd_D hI.2.2.1 q 2 (by rw [wd_at hlt, hk]; rfl) rfl (inb_in hin) hdg (fun H1 locs1 hP hD hS => ?_)
  refine z_sz hS.1 (fun e1 => ?_)
  rw [wd_rJ (f := vp_updL (gJ σ q) i.toNatClampNeg x) hlt (by rw [hk]; rfl)] at hP
  exact kk H1 locs1 ⟨hP, e1.trans (e0.symm.trans hI.2.1), hS, hI.2.2.2⟩
theorem z_calli0 {σ1 : Hp} {r : Int32} {mc ms : Nat} {st0 : List Value} (hm : mc = 0) (hs : ms = 0) (hI : Inv G s σ H locs) (hr : va_Run p l e R s m args below meth c H locs cells slots mc ms (F0 m pc ls st0) rest (QI G σ1 r a) (gA G))
    (kk : ∀ (H : Heap) (locs : List Loc), Inv G s σ1 H locs → W p l e R s m args below meth c H locs cells slots Q (F0 m (pc + 3) ls (.int r :: rest))) : W p l e R s m args below meth c H locs cells slots Q (F0 m pc ls st0) := by
  subst hm
  subst hs
  exact z_calli hI hr kk
theorem z_calll0 {σ1 : Hp} {r : Int64} {mc ms : Nat} {st0 : List Value} (hm : mc = 0) (hs : ms = 0) (hI : Inv G s σ H locs) (hr : va_Run p l e R s m args below meth c H locs cells slots mc ms (F0 m pc ls st0) rest (QL G σ1 r a) (gA G))
    (kk : ∀ (H : Heap) (locs : List Loc), Inv G s σ1 H locs → W p l e R s m args below meth c H locs cells slots Q (F0 m (pc + 3) ls (.long r :: rest))) : W p l e R s m args below meth c H locs cells slots Q (F0 m pc ls st0) := by
  subst hm
  subst hs
  exact z_calll hI hr kk
theorem z_callv0 {σ1 : Hp} {mc ms : Nat} {st0 : List Value} (hm : mc = 0) (hs : ms = 0) (hI : Inv G s σ H locs) (hr : va_Run p l e R s m args below meth c H locs cells slots mc ms (F0 m pc ls st0) rest (QV G σ1 a) (gA G))
    (kk : ∀ (H : Heap) (locs : List Loc), Inv G s σ1 H locs → W p l e R s m args below meth c H locs cells slots Q (F0 m (pc + 3) ls (rest))) : W p l e R s m args below meth c H locs cells slots Q (F0 m pc ls st0) := by
  subst hm
  subst hs
  exact z_callv hI hr kk
theorem z_callq0 {σ1 : Hp} {r : Option Nat} {mc ms : Nat} {st0 : List Value} (hm : mc = 0) (hs : ms = 0) (hI : Inv G s σ H locs) (hr : va_Run p l e R s m args below meth c H locs cells slots mc ms (F0 m pc ls st0) rest (QQ G σ1 r a) (gA G))
    (kk : ∀ (H : Heap) (locs : List Loc), Inv G s σ1 H locs → W p l e R s m args below meth c H locs cells slots Q (F0 m (pc + 3) ls (va_rf (r.map (fun z => G.1 + z)) :: rest))) : W p l e R s m args below meth c H locs cells slots Q (F0 m pc ls st0) := by
  subst hm
  subst hs
  exact z_callq hI hr kk
/-! STRIPS -/
theorem z_getS (hx : p.tables.exec = Jvm.exec) (hb : c.code = cc) {own ref nm : String} {index : Nat} {Ts : List Cond} (hts : ∀ w ∈ Ts, w.before args s = true) (hin0 : ∀ w ∈ u_ws RX0 TX0 3, w ∈ Ts) (hin1 : ∀ w ∈ u_ws RX1 TX1 3, w ∈ Ts) (hin2 : ∀ w ∈ u_ws RX2 TX2 3, w ∈ Ts) (hin3 : ∀ w ∈ u_ws RX3 TX3 3, w ∈ Ts) (hin7 : ∀ w ∈ u_ws RX7 TX7 3, w ∈ Ts) (hown : s.vm.findClass own = some m.cls) (hK : va_K G.2.1 vwCl (tys G.2.2.1) s) (hI : Inv G s σ H locs) {q : Nat} (hq : okS σ q) (k : Nat) (hk3 : k < 3) (ht : TX0 k = ("FenceYards$Strip", nm, "I", true) ∧ TX1 k = ("FenceYards$Strip", nm, "I", true) ∧ TX2 k = ("FenceYards$Strip", nm, "I", true) ∧ TX3 k = ("FenceYards$Strip", nm, "I", true) ∧ TX7 k = ("FenceYards$Strip", nm, "I", true)) (hlink : (Cond.fieldLink own index ref nm "I").before args s = true) (hsame : ∀ x, s.fieldFound? "FenceYards$Strip" nm "I" = some x → s.fieldFound? ref nm "I" = some x) (hv : ∀ i : Nat → Int32, ([.int (i 0), .int (i 1), .int (i 2)] : List Value)[k]? = some (.int (i k))) (hdg : decode cc pc = .ok (.getfield index, 3))
    (kk : W p l e R s m args below meth c H locs cells slots Q (F0 m (pc + 3) ls (.int (gI σ q k) :: rest))) : W p l e R s m args below meth c H locs cells slots Q (F0 m pc ls (.ref (G.1 + q) :: rest)) := by
  obtain ⟨t0, t1, t2, t3, t7⟩ := ht
  rcases hq.2 with h | h | h | h | h
  · exact z_get (C := RX0) (T := TX0) (N := 3) (ci := 0) (n := 0) (v := .int (gI σ q k)) hx hb hts hin0 hown hK hI q (kd_S hq h) (by decide) rfl k hk3 (by rw [t0]; exact hlink) (by rw [t0]; exact hsame) (hv (gI σ q)) hdg kk
  · exact z_get (C := RX1) (T := TX1) (N := 3) (ci := 1) (n := 0) (v := .int (gI σ q k)) hx hb hts hin1 hown hK hI q (kd_S hq h) (by decide) rfl k hk3 (by rw [t1]; exact hlink) (by rw [t1]; exact hsame) (hv (gI σ q)) hdg kk
  · exact z_get (C := RX2) (T := TX2) (N := 3) (ci := 2) (n := 0) (v := .int (gI σ q k)) hx hb hts hin2 hown hK hI q (kd_S hq h) (by decide) rfl k hk3 (by rw [t2]; exact hlink) (by rw [t2]; exact hsame) (hv (gI σ q)) hdg kk
  · exact z_get (C := RX3) (T := TX3) (N := 3) (ci := 3) (n := 0) (v := .int (gI σ q k)) hx hb hts hin3 hown hK hI q (kd_S hq h) (by decide) rfl k hk3 (by rw [t3]; exact hlink) (by rw [t3]; exact hsame) (hv (gI σ q)) hdg kk
  · exact z_get (C := RX7) (T := TX7) (N := 3) (ci := 7) (n := 0) (v := .int (gI σ q k)) hx hb hts hin7 hown hK hI q (kd_S hq h) (by decide) rfl k hk3 (by rw [t7]; exact hlink) (by rw [t7]; exact hsame) (hv (gI σ q)) hdg kk
theorem z_putS (hx : p.tables.exec = Jvm.exec) (hb : c.code = cc) {own ref nm : String} {index : Nat} {Ts : List Cond} (hts : ∀ w ∈ Ts, w.before args s = true) (hin0 : ∀ w ∈ u_ws RX0 TX0 3, w ∈ Ts) (hin1 : ∀ w ∈ u_ws RX1 TX1 3, w ∈ Ts) (hin2 : ∀ w ∈ u_ws RX2 TX2 3, w ∈ Ts) (hin3 : ∀ w ∈ u_ws RX3 TX3 3, w ∈ Ts) (hin7 : ∀ w ∈ u_ws RX7 TX7 3, w ∈ Ts) (hown : s.vm.findClass own = some m.cls) (hnm : meth.name = "<init>") (hst : own = "FenceYards$Strip") (hK : va_K G.2.1 vwCl (tys G.2.2.1) s) (hI : Inv G s σ H locs) {q : Nat} (hq : okS σ q) (k : Nat) (hk3 : k < 3) (ht : TX0 k = ("FenceYards$Strip", nm, "I", true) ∧ TX1 k = ("FenceYards$Strip", nm, "I", true) ∧ TX2 k = ("FenceYards$Strip", nm, "I", true) ∧ TX3 k = ("FenceYards$Strip", nm, "I", true) ∧ TX7 k = ("FenceYards$Strip", nm, "I", true)) (hlink : (Cond.fieldLink own index ref nm "I").before args s = true) (hsame : ∀ x, s.fieldFound? "FenceYards$Strip" nm "I" = some x → s.fieldFound? ref nm "I" = some x) {v : Int32} (hset : ∀ i : Nat → Int32, ([.int (i 0), .int (i 1), .int (i 2)] : List Value).set k (.int v) = [.int (upd i k v 0), .int (upd i k v 1), .int (upd i k v 2)]) (hdg : decode cc pc = .ok (.putfield index, 3))
    (kk : ∀ (H : Heap) (locs : List Loc), Inv G s (sI σ q k v) H locs → W p l e R s m args below meth c H locs 0 slots Q (F0 m (pc + 3) ls rest)) : W p l e R s m args below meth c H locs 0 slots Q (F0 m pc ls (.int v :: .ref (G.1 + q) :: rest)) := by
  obtain ⟨t0, t1, t2, t3, t7⟩ := ht
  refine z_sz hI.2.2.1.1 (fun e0 => ?_)
  rcases hq.2 with h | h | h | h | h
  · have hk := kd_S hq h
    have hlt := kd_lt hI.2.2.2 hk (by decide)
    refine va_putF (C := RX0) (T := TX0) (N := 3) (ci := 0) (ty := .int) (v := .int v) hx hb hts hin0 tyX0 tyX0_ok nmX0 hown hK hI.1 wd_D hI.2.2.1 q (fs := flds G.1 0 q (gI σ q) (gJ σ q) (gR σ q)) (by rw [wd_at hlt, hk, ce_obj (by decide)]) rfl k hk3 (by rw [t0]; exact hlink) (by rw [t0]; exact hsame) (by rw [t0]) hnm (by rw [t0, hst]) (by rw [t0]; exact (show parseFieldDescriptor "I" = some FieldType.int from by decide +kernel)) rfl rfl hk3 hdg (fun H1 locs1 hP hD hS => ?_)
    refine z_sz hS.1 (fun e1 => ?_)
    rw [wd_rI (f := upd (gI σ q) k v) hlt (by rw [hk, ce_obj (by decide)]; exact congrArg (fun z => Sum.inr (0, z)) (hset (gI σ q)))] at hP
    exact kk H1 locs1 ⟨hP, e1.trans (e0.symm.trans hI.2.1), hS, hI.2.2.2⟩
  · have hk := kd_S hq h
    have hlt := kd_lt hI.2.2.2 hk (by decide)
    refine va_putF (C := RX1) (T := TX1) (N := 3) (ci := 1) (ty := .int) (v := .int v) hx hb hts hin1 tyX1 tyX1_ok nmX1 hown hK hI.1 wd_D hI.2.2.1 q (fs := flds G.1 1 q (gI σ q) (gJ σ q) (gR σ q)) (by rw [wd_at hlt, hk, ce_obj (by decide)]) rfl k hk3 (by rw [t1]; exact hlink) (by rw [t1]; exact hsame) (by rw [t1]) hnm (by rw [t1, hst]) (by rw [t1]; exact (show parseFieldDescriptor "I" = some FieldType.int from by decide +kernel)) rfl rfl hk3 hdg (fun H1 locs1 hP hD hS => ?_)
    refine z_sz hS.1 (fun e1 => ?_)
    rw [wd_rI (f := upd (gI σ q) k v) hlt (by rw [hk, ce_obj (by decide)]; exact congrArg (fun z => Sum.inr (1, z)) (hset (gI σ q)))] at hP
    exact kk H1 locs1 ⟨hP, e1.trans (e0.symm.trans hI.2.1), hS, hI.2.2.2⟩
  · have hk := kd_S hq h
    have hlt := kd_lt hI.2.2.2 hk (by decide)
    refine va_putF (C := RX2) (T := TX2) (N := 3) (ci := 2) (ty := .int) (v := .int v) hx hb hts hin2 tyX2 tyX2_ok nmX2 hown hK hI.1 wd_D hI.2.2.1 q (fs := flds G.1 2 q (gI σ q) (gJ σ q) (gR σ q)) (by rw [wd_at hlt, hk, ce_obj (by decide)]) rfl k hk3 (by rw [t2]; exact hlink) (by rw [t2]; exact hsame) (by rw [t2]) hnm (by rw [t2, hst]) (by rw [t2]; exact (show parseFieldDescriptor "I" = some FieldType.int from by decide +kernel)) rfl rfl hk3 hdg (fun H1 locs1 hP hD hS => ?_)
    refine z_sz hS.1 (fun e1 => ?_)
    rw [wd_rI (f := upd (gI σ q) k v) hlt (by rw [hk, ce_obj (by decide)]; exact congrArg (fun z => Sum.inr (2, z)) (hset (gI σ q)))] at hP
    exact kk H1 locs1 ⟨hP, e1.trans (e0.symm.trans hI.2.1), hS, hI.2.2.2⟩
  · have hk := kd_S hq h
    have hlt := kd_lt hI.2.2.2 hk (by decide)
    refine va_putF (C := RX3) (T := TX3) (N := 3) (ci := 3) (ty := .int) (v := .int v) hx hb hts hin3 tyX3 tyX3_ok nmX3 hown hK hI.1 wd_D hI.2.2.1 q (fs := flds G.1 3 q (gI σ q) (gJ σ q) (gR σ q)) (by rw [wd_at hlt, hk, ce_obj (by decide)]) rfl k hk3 (by rw [t3]; exact hlink) (by rw [t3]; exact hsame) (by rw [t3]) hnm (by rw [t3, hst]) (by rw [t3]; exact (show parseFieldDescriptor "I" = some FieldType.int from by decide +kernel)) rfl rfl hk3 hdg (fun H1 locs1 hP hD hS => ?_)
    refine z_sz hS.1 (fun e1 => ?_)
    rw [wd_rI (f := upd (gI σ q) k v) hlt (by rw [hk, ce_obj (by decide)]; exact congrArg (fun z => Sum.inr (3, z)) (hset (gI σ q)))] at hP
    exact kk H1 locs1 ⟨hP, e1.trans (e0.symm.trans hI.2.1), hS, hI.2.2.2⟩
  · have hk := kd_S hq h
    have hlt := kd_lt hI.2.2.2 hk (by decide)
    refine va_putF (C := RX7) (T := TX7) (N := 3) (ci := 7) (ty := .int) (v := .int v) hx hb hts hin7 tyX7 tyX7_ok nmX7 hown hK hI.1 wd_D hI.2.2.1 q (fs := flds G.1 7 q (gI σ q) (gJ σ q) (gR σ q)) (by rw [wd_at hlt, hk, ce_obj (by decide)]) rfl k hk3 (by rw [t7]; exact hlink) (by rw [t7]; exact hsame) (by rw [t7]) hnm (by rw [t7, hst]) (by rw [t7]; exact (show parseFieldDescriptor "I" = some FieldType.int from by decide +kernel)) rfl rfl hk3 hdg (fun H1 locs1 hP hD hS => ?_)
    refine z_sz hS.1 (fun e1 => ?_)
    rw [wd_rI (f := upd (gI σ q) k v) hlt (by rw [hk, ce_obj (by decide)]; exact congrArg (fun z => Sum.inr (7, z)) (hset (gI σ q)))] at hP
    exact kk H1 locs1 ⟨hP, e1.trans (e0.symm.trans hI.2.1), hS, hI.2.2.2⟩
theorem z_ast (hx : p.tables.exec = Jvm.exec) (hb : c.code = cc) (hK : va_K G.2.1 vwCl (tys G.2.2.1) s) (hG : Gl G s) (hI : Inv G s σ H locs) (q : Nat) {n k : Nat} (hk : kd σ q = (16, n)) {r : Option Nat} (hr : okO σ r) {i : Int32} (hin : inb i n) (hi : i.toNatClampNeg = k) (hdg : decode cc pc = .ok (.aastore, 1))
    (kk : ∀ (H : Heap) (locs : List Loc), Inv G s (sR σ q k r) H locs → W p l e R s m args below meth c H locs 0 slots Q (F0 m (pc + 1) ls rest)) : W p l e R s m args below meth c H locs 0 slots Q (F0 m pc ls (va_rf (r.map (fun z => G.1 + z)) :: .int i :: .ref (G.1 + q) :: rest)) := by
  subst hi
  have hlt := kd_lt hI.2.2.2 hk (by decide)
  have hup : ∀ x : Option Nat, va_up (fun k => (gR σ q k).map (fun z => G.1 + z)) i.toNatClampNeg (x.map (fun z => G.1 + z)) = fun k => (va_up (gR σ q) i.toNatClampNeg x k).map (fun z => G.1 + z) := by
    intro x
    funext j
    by_cases hj : j = i.toNatClampNeg
    · subst hj
      rw [up_self, up_self]
    · rw [up_ne hj, up_ne hj]
  refine z_sz hI.2.2.1.1 (fun e0 => ?_)
  cases r with
  | none =>
    refine va_astqN (C := "FenceYards$Strip") hx hb hK hI.1 wd_D hI.2.2.1 q 4 (by rw [wd_at hlt, hk]; rfl) rfl (inb_in hin) hdg (fun H1 locs1 hP hD hS => ?_)
    refine z_sz hS.1 (fun e1 => ?_)
    rw [wd_rR (f := va_up (gR σ q) i.toNatClampNeg none) hlt (by rw [hk]; exact congrArg (fun z => Sum.inl (G.2.2.1 4, n, Sum.inr (Sum.inr (Sum.inr (Sum.inr z))))) (hup none))] at hP
    exact kk H1 locs1 ⟨hP, e1.trans (e0.symm.trans hI.2.1), hS, WF_sR hk hI.2.2.2⟩
  | some z =>
    have hany : va_Any "FenceYards$Strip" s H (G.1 + z) := by
      have hz : okS σ z := hr.resolve_left (fun h => by cases h)
      have hy := hG.1.2.2.2.1
      rcases hz.2 with h | h | h | h | h
      · exact va_rAny (q0 := z) hK hI.1 (by rw [wd_at (kd_lt hI.2.2.2 (kd_S hz h) (by decide)), kd_S hz h, ce_obj (by decide)]) (r := (RX0, TX0, 3)) rfl (asg_of (hy ("FenceYards$Apple", "FenceYards$Strip") (by decide +kernel)))
      · exact va_rAny (q0 := z) hK hI.1 (by rw [wd_at (kd_lt hI.2.2.2 (kd_S hz h) (by decide)), kd_S hz h, ce_obj (by decide)]) (r := (RX1, TX1, 3)) rfl (asg_of (hy ("FenceYards$Bean", "FenceYards$Strip") (by decide +kernel)))
      · exact va_rAny (q0 := z) hK hI.1 (by rw [wd_at (kd_lt hI.2.2.2 (kd_S hz h) (by decide)), kd_S hz h, ce_obj (by decide)]) (r := (RX2, TX2, 3)) rfl (asg_of (hy ("FenceYards$Clover", "FenceYards$Strip") (by decide +kernel)))
      · exact va_rAny (q0 := z) hK hI.1 (by rw [wd_at (kd_lt hI.2.2.2 (kd_S hz h) (by decide)), kd_S hz h, ce_obj (by decide)]) (r := (RX3, TX3, 3)) rfl (asg_of (hy ("FenceYards$Grass", "FenceYards$Strip") (by decide +kernel)))
      · exact va_rAny (q0 := z) hK hI.1 (by rw [wd_at (kd_lt hI.2.2.2 (kd_S hz h) (by decide)), kd_S hz h, ce_obj (by decide)]) (r := (RX7, TX7, 3)) rfl (asg_of (hy ("FenceYards$Rye", "FenceYards$Strip") (by decide +kernel)))
    refine va_astqM (E := "FenceYards$Strip") hx hb hK hI.1 wd_D hI.2.2.1 q 4 (by rw [wd_at hlt, hk]; rfl) rfl hany (inb_in hin) hdg (fun H1 locs1 hP hD hS => ?_)
    refine z_sz hS.1 (fun e1 => ?_)
    rw [wd_rR (f := va_up (gR σ q) i.toNatClampNeg (some z)) hlt (by rw [hk]; exact congrArg (fun z => Sum.inl (G.2.2.1 4, n, Sum.inr (Sum.inr (Sum.inr (Sum.inr z))))) (hup (some z)))] at hP
    exact kk H1 locs1 ⟨hP, e1.trans (e0.symm.trans hI.2.1), hS, WF_sR hk hI.2.2.2⟩
theorem z_copy (hx : p.tables.exec = Jvm.exec) (hb : c.code = cc) (hml : c.maxLocals = ls.size) {own : String} {index : Nat} (hown : s.vm.findClass own = some m.cls) (hlink : (Cond.methodLink own index arraycopyName).before args s = true) (hnat : (Cond.native arraycopyName).before args s = true) (hstat : (Cond.static arraycopyName).before args s = true) (hini : (Cond.initialized "java/lang/System").before args s = true)
    (hK : va_K G.2.1 vwCl (tys G.2.2.1) s) (hI : Inv G s σ H locs) {q0 q1 n0 n1 : Nat} (hk0 : kd σ q0 = (13, n0)) (hk1 : kd σ q1 = (13, n1)) {sp dp n : Int32} (h : cpok sp dp n n0 n1) (hframes : 1 ≤ R.frames) (hlocals : (rest.map fun v => v.category).sum + (nativeFrameWords "java/lang/System" "arraycopy" 5 + 11) ≤ R.locals) (hdg : decode cc pc = .ok (.invokestatic index, 3))
    (kk : ∀ (H : Heap) (locs : List Loc), Inv G s (rI σ q1 (va_cpy (gI σ q0) (gI σ q1) sp.toNatClampNeg dp.toNatClampNeg n.toNatClampNeg)) H locs → W p l e R s m args below meth c H locs 0 slots Q (F0 m (pc + 3) ls rest)) : W p l e R s m args below meth c H locs 0 slots Q (F0 m pc ls (.int n :: .int dp :: .ref (G.1 + q1) :: .int sp :: .ref (G.1 + q0) :: rest)) := by
  obtain ⟨h1, h2, h3, h4, h5⟩ := h
  have l0 := kd_lt hI.2.2.2 hk0 (by decide)
  have l1 := kd_lt hI.2.2.2 hk1 (by decide)
  refine z_sz hI.2.2.1.1 (fun e0 => ?_)
  refine va_copyi (ty := .int) (f := gI σ q0) (g := gI σ q1) hx hb hml hown hlink hnat hstat hini hK hI.1 wd_D hI.2.2.1 q0 q1 1 1 (by rw [wd_at l0, hk0]; rfl) (by rw [wd_at l1, hk1]; rfl) rfl rfl rfl h1 h2 h3 h4 h5 (fun _ _ => rfl) hframes hlocals hdg (fun H1 locs1 hP hD hS => ?_)
  refine z_sz hS.1 (fun e1 => ?_)
  rw [wd_rI (f := va_cpy (gI σ q0) (gI σ q1) sp.toNatClampNeg dp.toNatClampNeg n.toNatClampNeg) l1 (by rw [hk1]; rfl)] at hP
  exact kk H1 locs1 ⟨hP, e1.trans (e0.symm.trans hI.2.1), hS, hI.2.2.2⟩
theorem z_new (hx : p.tables.exec = Jvm.exec) (hb : c.code = cc) {own C : String} {T : u_T} {ci index : Nat} {Ts : List Cond} (hts : ∀ w ∈ Ts, w.before args s = true) (hin : ∀ w ∈ u_ws C T 3, w ∈ Ts) (ty : Nat → FieldType) (hty : ∀ k, k < 3 → parseFieldDescriptor (T k).2.2.1 = some (ty k)) (hown : s.vm.findClass own = some m.cls) (hcl : (Cond.classLink own index C).before args s = true) (hinst : (Cond.instantiable C 3).before args s = true) (hini : (Cond.initialized C).before args s = true)
    (hK : va_K G.2.1 vwCl (tys G.2.2.1) s) (hI : Inv G s σ H locs) (hc : vwCl[ci]? = some (C, T, 3)) (hok : okK ci) (hd : ∀ j, j < 3 → ty j = .int) (hcells : cells + 1 ≤ R.cells) (hslots : slots + 3 ≤ R.slots) (hdg : decode cc pc = .ok (.new index, 3))
    (kk : ∀ (H : Heap) (locs : List Loc), Inv G s (nS σ ci) H locs → W p l e R s m args below meth c H locs (cells + 1) (slots + 3) Q (F0 m (pc + 3) ls (.ref (G.1 + gT σ) :: rest))) : W p l e R s m args below meth c H locs cells slots Q (F0 m pc ls rest) := by
  have hKn := hK.1 ci _ hc
  refine W.newcK hx hb hown hcl hinst hini rfl hdg hcells hslots hKn.2.1 hI.2.1 fun H1 kC hkC e1 z1 o1 => ?_
  refine kk H1 locs ⟨?_, z1, ⟨Nat.le_trans hI.2.2.1.1 (by rw [z1, hI.2.1]; omega), fun x h1 h2 => (o1 x (by rw [← hI.2.1]; exact Nat.lt_of_lt_of_le h1 hI.2.2.1.1)).trans (hI.2.2.1.2.1 x h1 h2), hI.2.2.1.2.2⟩, WF_new hI.2.2.2 hok⟩
  rw [wd_new hI.2.2.2 hok]
  refine va_P.app (hI.1.kept (fun k x hx => o1 x.1 (by have := (hI.1 k x hx).lt; rw [hI.2.1] at this; exact this))) (fun k x hx => ?_)
  have hz : k < 1 := (List.getElem?_eq_some_iff.mp hx).1
  rw [show k = 0 by omega] at hx
  cases hx
  exact ⟨_, hc, (u_born ty hts hin hKn hkC e1 hty).to (fun j hj => by rw [hd j hj]; rcases (show j = 0 ∨ j = 1 ∨ j = 2 by omega) with rfl | rfl | rfl <;> rfl)⟩
end ZR
