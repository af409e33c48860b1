def zforms : List String := ["FORM_BORN", "FORM_PARENTS", "FORM_PATH", "FORM_SAY", "FORM_PUPIL", "FORM_ANSWER", "FORM_ASKS", "FORM_BE", "FORM_NOTHING"]
def zwords : String := "ask let born path say pupil answer asks morning be of and to long knows deep age kids kin way more less if end p q r s "
def zsigns : String := "<>=#+-*(),;?:"
def zslen : List Nat := [119, 13]
def zsbyt : List (List Int32) := [zwords.toList.map (fun c => Int32.ofNat c.toNat), zsigns.toList.map (fun c => Int32.ofNat c.toNat)]
/-- what lies in the old heap, and never changes: the script and the forms, the two texts, three statics -/
def zO (G : zG) (U : State) : Prop :=
  (∀ k, k < 10 → va_T .int (G.2.2.2.2.1 k) (G.2.2.2.2.2.1 k).1 (fun j => .int ((G.2.2.2.2.2.1 k).2 j)) (zA G) U U.heap) ∧
  (∀ k, k < 9 → va_Z "AnswersFirst" (zforms.getD k "") "[I" (.ref (G.2.2.2.2.1 (k + 1))) (zA G) U U.heap) ∧
  vk_S 2 zslen zsbyt (fun i => G.2.2.2.2.1 (10 + i)) (fun i => G.2.2.2.2.1 (12 + i)) (zA G) U U.heap ∧
  (vk_R "AnswersFirst$Tape" zkW zwords (G.2.2.2.2.1 10) U ∧ vk_R "AnswersFirst$Tape" zkS zsigns (G.2.2.2.2.1 11) U) ∧
  va_Z "java/lang/String" "COMPACT_STRINGS" "Z" (.int 1) (zA G) U U.heap ∧
  va_Zq "jdk/internal/util/Preconditions" "SIOOBE_FORMATTER" "Ljava/util/function/BiFunction;" (zA G) U U.heap
def zS (G : zG) (U : State) : Prop :=
  (∀ w ∈ zTs, w.before #[] U = true) ∧ (∀ w ∈ zNs, va_Nw w U) ∧ (va_AO "AnswersFirst$Script" U ∧ va_AO "AnswersFirst$Nodes" U) ∧ va_K G.2.1 vwCl (ztys G) U ∧ zO G U
theorem zTs_good {w : Cond} (h : w ∈ zTs) : (w.onTables && w.keeps) = true ∨ ∃ ty, w = .arrayClass ty := good_of_word (List.mem_filter.mp h).2
theorem zO_move {G : zG} {s U : State} (h : zO G s) (hW : s.WarmedH U.vm) (hq : ∀ a : Nat, a < s.heap.size → ¬ zA G a → U.heap[a]? = s.heap[a]?) : zO G U := by
  obtain ⟨h1, h2, h3, ⟨h4, h5⟩, h6, h7⟩ := h
  exact ⟨fun k hk => (va_T.moved hW.alike (h1 k hk)).kept hq, fun k hk => (va_Z.moved hW.alike (h2 k hk)).kept hq, (vk_S.moved hW.alike h3).kept hq, ⟨vk_R.warm hW h4, vk_R.warm hW h5⟩, (va_Z.moved hW.alike h6).kept hq, (va_Zq.moved hW.alike h7).kept hq⟩
theorem zNs_move {s U : State} (hW : s.WarmedH U.vm) (h : ∀ w ∈ zNs, va_Nw w s) : ∀ w ∈ zNs, va_Nw w U := by
  intro w hw
  have h1 := h w hw
  have h2 : znest w = true := (List.mem_filter.mp hw).2
  cases w <;> first | (exact va_Nw.warmF hW h1) | (exact va_Nw.warmM hW h1) | (exact Bool.noConfusion h2)
theorem zS_move {G : zG} {s U : State} (h : zS G s) (hW : s.WarmedH U.vm) (hq : ∀ a : Nat, a < s.heap.size → ¬ zA G a → U.heap[a]? = s.heap[a]?) : zS G U := by
  obtain ⟨h1, h2, ⟨h3, h3'⟩, h4, h5⟩ := h
  exact ⟨fun w hw => word_at hW (zTs_good hw) (h1 w hw), zNs_move hW h2, ⟨va_AO.moved hW.alike h3, va_AO.moved hW.alike h3'⟩, va_K.moved hW.alike h4, zO_move h5 hW hq⟩
theorem zS_hts {G : zG} {s : State} (h : zS G s) (args : Array Value) : ∀ w ∈ zTs, w.before args s = true := fun w hw => word_at (State.WarmedH.refl s) (zTs_good hw) (h.1 w hw)
theorem zS_nw {G : zG} {s : State} (h : zS G s) (args : Array Value) {w : Cond} (hw : w ∈ zNs) : w.before args s = true := by
  have h2 : znest w = true := (List.mem_filter.mp hw).2
  have h1 := h.2.1 w hw
  cases w <;> first | (exact va_Nw.use rfl h1) | (exact Bool.noConfusion h2)
/-- how many slots the first n cells have together -/
def zsl : Nat → Nat
  | 0 => 0
  | n + 1 => zsl n + (zsh (n + 1)).2
abbrev zrep (G : zG) (n : Nat) (M : zM) (H : Heap) : Prop := va_P G.2.1 vwCl (zws G n M) H
def zCtx (G : zG) (d : Nat) (mt : zMt) (p : Program) (R : Room) (s : State) (m : MethodId) (meth : Method) (c : Code) : Prop :=
  p.tables.exec = Jvm.exec ∧ c.code = mt.2.1 ∧ c.maxLocals = mt.2.2.1 ∧ s.vm.findClass mt.1.cls = some m.cls ∧ zS G s ∧ meth.name = mt.1.name ∧ d ≤ R.frames ∧ 60 * d ≤ R.locals ∧ zB G ≤ s.heap.size
/-- the end of a method: from its return instruction the machine comes to QS -/
def zEnd (G : zG) (mt : zMt) (n1 : Nat) (Q : zV → zM → Prop) (p : Program) (e : Env) (R : Room) (s : State) (m : MethodId) (args : Array Value) (below : List Frame) (meth : Method) (c : Code) (QS : State → Prop) : Prop :=
  ∀ (v : zV) (M : zM) (H : Heap) (locs : List Loc) (c1 s1 pc : Nat) (ls : Array Slot), zokM M → zfix G M → zin v.1 v.2 → Q v M → zrep G n1 M H → va_S (zA G) s.heap H locs → s.heap.size + c1 = zB G + n1 → c1 ≤ R.cells → s1 ≤ R.slots →
    (v.1 = 0 → (∃ ty, mt.2.2.2 = some ty ∧ narrow ty (.int (Int32.ofInt v.2)) = .int (Int32.ofInt v.2)) → decode mt.2.1 pc = .ok (.ireturn, 1) → W p G.1 e R s m args below meth c H locs c1 s1 QS (F0 m pc ls [zc G v])) ∧
    (v.1 = 1 → mt.2.2.2 = some .long → decode mt.2.1 pc = .ok (.lreturn, 1) → W p G.1 e R s m args below meth c H locs c1 s1 QS (F0 m pc ls [zc G v])) ∧
    (v = (9, 0) → mt.2.2.2 = none → decode mt.2.1 pc = .ok (.return_, 1) → W p G.1 e R s m args below meth c H locs c1 s1 QS (F0 m pc ls []))
/-- from here on the method comes to its end, with n1 cells, and Q of its answer and the memory -/
def Z (G : zG) (d : Nat) (mt : zMt) (pc : Nat) (ls st : List zV) (n n1 : Nat) (M : zM) (Q : zV → zM → Prop) : Prop :=
  zokM M → zfix G M → zokL ls → zokL st →
  ∀ (p : Program) (e : Env) (R : Room) (s : State) (m : MethodId) (args : Array Value) (below : List Frame) (meth : Method) (c : Code) (H : Heap) (locs : List Loc) (c1 s1 : Nat) (lsC : Array Slot) (QS : State → Prop),
    zCtx G d mt p R s m meth c → va_S (zA G) s.heap H locs → zrep G n M H → zL G lsC mt.2.2.1 ls → ls.length = mt.2.2.1 → s.heap.size + c1 = zB G + n → n ≤ n1 → c1 + (n1 - n) ≤ R.cells → s1 + (zsl n1 - zsl n) ≤ R.slots →
    zEnd G mt n1 Q p e R s m args below meth c QS →
    W p G.1 e R s m args below meth c H locs c1 s1 QS (F0 m pc lsC (st.map (zc G)))
section ZR
variable {G : zG} {d : Nat} {mt : zMt} {pc : Nat} {ls st : List zV} {n n1 : Nat} {M : zM} {Q : zV → zM → Prop}
theorem z_okc {t : Nat} {x : Int} {l : List zV} (h : zin t x) (hl : zokL l) : zokL ((t, x) :: l) := fun v hv => by
  rcases List.mem_cons.mp hv with rfl | h1
  · exact h
  · exact hl v h1
theorem z_oks {i : Nat} {u : zV} {l : List zV} (h : zin u.1 u.2) (hl : zokL l) : zokL (l.set i u) := fun v hv => by
  rcases List.mem_or_eq_of_mem_set hv with h1 | rfl
  · exact hl v h1
  · exact h
theorem z_okat {l : List zV} {k : Nat} {v : zV} (hl : zokL l) (hk : l[k]? = some v) : zin v.1 v.2 := hl v (List.mem_of_getElem? hk)
/-- the facts about all numbers at hand -/
theorem z_facts (h : zokM M → zfix G M → zokL ls → zokL st → Z G d mt pc ls st n n1 M Q) : Z G d mt pc ls st n n1 M Q := fun oM oF oL oS => h oM oF oL oS oM oF oL oS
theorem Z.post {Q' : zV → zM → Prop} (h : Z G d mt pc ls st n n1 M Q) (hq : ∀ v M', zokM M' → zfix G M' → zin v.1 v.2 → Q v M' → Q' v M') : Z G d mt pc ls st n n1 M Q' := by
  intro oM oF oL oS p e R s m args below meth c H locs c1 s1 lsC QS X hS hr hl hll hz hn hc hs hE
  exact h oM oF oL oS p e R s m args below meth c H locs c1 s1 lsC QS X hS hr hl hll hz hn hc hs (fun v M' H' locs' c' s' pc' ls' a1 a2 a3 a4 => hE v M' H' locs' c' s' pc' ls' a1 a2 a3 (hq v M' a1 a2 a3 a4))
theorem Z.deep {d' : Nat} (hd : d ≤ d') (h : Z G d mt pc ls st n n1 M Q) : Z G d' mt pc ls st n n1 M Q := by
  intro oM oF oL oS p e R s m args below meth c H locs c1 s1 lsC QS X
  obtain ⟨x1, x2, x3, x4, x5, x6, x7, x8, x9⟩ := X
  exact h oM oF oL oS p e R s m args below meth c H locs c1 s1 lsC QS ⟨x1, x2, x3, x4, x5, x6, by omega, by omega, x9⟩
/-- a step that leaves locals and memory -/
theorem z_stp {pc' : Nat} {st' : List zV} (hok : zokL ls → zokL st → zokL st')
    (hw : ∀ (p : Program) (e : Env) (R : Room) (s : State) (m : MethodId) (args : Array Value) (below : List Frame) (meth : Method) (c : Code) (H : Heap) (locs : List Loc) (c1 s1 : Nat) (lsC : Array Slot) (QS : State → Prop), p.tables.exec = Jvm.exec → c.code = mt.2.1 → s.vm.findClass mt.1.cls = some m.cls → zS G s → zL G lsC mt.2.2.1 ls → zokL ls → zokL st →
      W p G.1 e R s m args below meth c H locs c1 s1 QS (F0 m pc' lsC (st'.map (zc G))) → W p G.1 e R s m args below meth c H locs c1 s1 QS (F0 m pc lsC (st.map (zc G))))
    (h : Z G d mt pc' ls st' n n1 M Q) : Z G d mt pc ls st n n1 M Q := by
  intro oM oF oL oS p e R s m args below meth c H locs c1 s1 lsC QS X hS hr hl hll hz hn hc hs hE
  exact hw p e R s m args below meth c H locs c1 s1 lsC QS X.1 X.2.1 X.2.2.2.1 X.2.2.2.2.1 hl oL oS (h oM oF oL (hok oL oS) p e R s m args below meth c H locs c1 s1 lsC QS X hS hr hl hll hz hn hc hs hE)
/-- a step that changes a local -/
theorem z_stl {pc' : Nat} {ls' st' : List zV} (hok : zokL ls → zokL st → zokL ls' ∧ zokL st') (hlen : ls'.length = ls.length)
    (hw : ∀ (p : Program) (e : Env) (R : Room) (s : State) (m : MethodId) (args : Array Value) (below : List Frame) (meth : Method) (c : Code) (H : Heap) (locs : List Loc) (c1 s1 : Nat) (lsC : Array Slot) (QS : State → Prop), p.tables.exec = Jvm.exec → c.code = mt.2.1 → ls.length = mt.2.2.1 → zL G lsC mt.2.2.1 ls → zokL ls → zokL st →
      (∀ lsC' : Array Slot, zL G lsC' mt.2.2.1 ls' → W p G.1 e R s m args below meth c H locs c1 s1 QS (F0 m pc' lsC' (st'.map (zc G)))) → W p G.1 e R s m args below meth c H locs c1 s1 QS (F0 m pc lsC (st.map (zc G))))
    (h : Z G d mt pc' ls' st' n n1 M Q) : Z G d mt pc ls st n n1 M Q := by
  intro oM oF oL oS p e R s m args below meth c H locs c1 s1 lsC QS X hS hr hl hll hz hn hc hs hE
  exact hw p e R s m args below meth c H locs c1 s1 lsC QS X.1 X.2.1 hll hl oL oS (fun lsC' hl' => h oM oF (hok oL oS).1 (hok oL oS).2 p e R s m args below meth c H locs c1 s1 lsC' QS X hS hr hl' (hlen.trans hll) hz hn hc hs hE)
end ZR
