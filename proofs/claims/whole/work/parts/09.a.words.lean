def zshL : List (Nat × Nat) := [(0, 0), (11, 10), (10, 11), (100, 4), (100, 8), (100, 8), (100, 8), (100, 36), (100, 64), (100, 36), (100, 8), (100, 300), (4, 8), (8, 10), (100, 300), (100, 301), (100, 301), (100, 301), (103, 4), (3, 16), (104, 12), (100, 12), (100, 12), (100, 12), (100, 12), (100, 12), (100, 12), (100, 12), (104, 12), (100, 12), (100, 12), (1, 9), (100, 300), (100, 300), (100, 300), (100, 300), (100, 300), (100, 300), (100, 300), (100, 16), (1, 9), (100, 300), (100, 300), (100, 300), (100, 300), (100, 300), (100, 300), (100, 300), (100, 16), (1, 9), (100, 300), (100, 300), (100, 300), (100, 300), (100, 300), (100, 300), (100, 300), (100, 16), (1, 9), (100, 300), (100, 300), (100, 300), (100, 300), (100, 300), (100, 300), (100, 300), (100, 16), (1, 9), (100, 300), (100, 300), (100, 300), (100, 300), (100, 300), (100, 300), (100, 300), (100, 16), (1, 9), (100, 300), (100, 300), (100, 300), (100, 300), (100, 300), (100, 300), (100, 300), (100, 16), (1, 9), (100, 300), (100, 300), (100, 300), (100, 300), (100, 300), (100, 300), (100, 300), (100, 16), (1, 9), (100, 300), (100, 300), (100, 300), (100, 300), (100, 300), (100, 300), (100, 300), (100, 16), (1, 9), (100, 300), (100, 300), (100, 300), (100, 300), (100, 300), (100, 300), (100, 300), (100, 16), (1, 9), (100, 300), (100, 300), (100, 300), (100, 300), (100, 300), (100, 300), (100, 300), (100, 16), (1, 9), (100, 300), (100, 300), (100, 300), (100, 300), (100, 300), (100, 300), (100, 300), (100, 16), (1, 9), (100, 300), (100, 300), (100, 300), (100, 300), (100, 300), (100, 300), (100, 300), (100, 16), (1, 9), (100, 300), (100, 300), (100, 300), (100, 300), (100, 300), (100, 300), (100, 300), (100, 16), (1, 9), (100, 300), (100, 300), (100, 300), (100, 300), (100, 300), (100, 300), (100, 300), (100, 16), (6, 10), (100, 6), (100, 6), (100, 6), (100, 6), (100, 6), (100, 6), (100, 6), (2, 6), (100, 6), (100, 12), (102, 64), (100, 6), (9, 5), (100, 50050), (100, 10), (100, 4), (100, 1001), (100, 9), (0, 13), (100, 8), (100, 8), (100, 8), (100, 12), (100, 12), (100, 4), (100, 10000), (5, 2), (100, 128), (7, 5), (100, 24), (100, 144), (1, 9), (100, 300), (100, 300), (100, 300), (100, 300), (100, 300), (100, 300), (100, 300), (100, 16), (7, 5), (100, 24), (100, 144), (1, 9), (100, 300), (100, 300), (100, 300), (100, 300), (100, 300), (100, 300), (100, 300), (100, 16), (7, 5), (100, 24), (100, 144), (1, 9), (100, 300), (100, 300), (100, 300), (100, 300), (100, 300), (100, 300), (100, 300), (100, 16), (7, 5), (100, 24), (100, 144), (1, 9), (100, 300), (100, 300), (100, 300), (100, 300), (100, 300), (100, 300), (100, 300), (100, 16), (12, 53), (100, 156), (100, 156), (100, 64), (100, 36), (100, 300), (100, 3556), (100, 10), (100, 10), (100, 10), (100, 10), (100, 10), (100, 12), (100, 2880), (100, 48), (100, 4), (101, 130), (100, 600), (100, 130), (100, 600), (100, 40), (100, 40), (100, 40), (100, 600), (102, 12), (100, 12), (100, 6), (100, 6), (102, 4096), (102, 4096), (101, 6006), (100, 10), (100, 10), (100, 9)]
def zsh (o : Nat) : Nat × Nat := zshL.getD o (0, 0)
def zfdL : List (List Nat) := [[2, 2, 0, 2, 0, 2, 2, 0, 2, 2, 0, 3, 0], [2, 2, 2, 2, 2, 2, 2, 2, 0], [2, 2, 2, 2, 0, 0], [2, 2, 2, 2, 2, 2, 2, 2, 0, 0, 2, 2, 2, 0, 2, 2], [2, 3, 0, 0, 0, 0, 0, 0], [2, 0], [2, 2, 2, 2, 2, 0, 0, 2, 2, 0], [2, 2, 0, 0, 2], [2, 0, 2, 2, 2, 0, 0, 0, 0, 0], [2, 2, 2, 2, 2], [2, 2, 2, 2, 0, 2, 2, 2, 2, 2, 0], [2, 2, 2, 0, 2, 2, 2, 2, 2, 2], [2, 2, 2, 2, 2, 0, 0, 0, 0, 0, 0, 0, 1, 2, 0, 0, 0, 2, 2, 2, 2, 2, 0, 0, 0, 0, 0, 3, 2, 2, 2, 2, 2, 2, 2, 2, 0, 2, 2, 2, 0, 2, 2, 2, 2, 2, 2, 2, 2, 2, 2, 2, 0]]
def zfd (c : Nat) : List Nat := zfdL.getD c []
abbrev zkW : Nat := 83
abbrev zkS : Nat := 94
abbrev zMt : Type := MethodName × ByteArray × Nat × Option FieldType

def zTs : List Cond := lw_tbl.filter goodWord
def znest : Cond → Bool
  | .fieldLinkNest .. => true
  | .methodLinkNest .. => true
  | _ => false
def zNs : List Cond := lw_tbl.filter znest

def zgf (own : String) (idx ci k : Nat) : Prop := ∃ (C : String) (T : u_T) (N : Nat), vwCl[ci]? = some (C, T, N) ∧ k < N ∧ (Cond.fieldLink own idx (T k).1 (T k).2.1 (T k).2.2.1 ∈ zTs ∨ ∃ host, Cond.fieldLinkNest own idx (T k).1 (T k).2.1 (T k).2.2.1 host ∈ zNs) ∧ (∀ w ∈ u_ws C T N, w ∈ zTs)

def zpf (ci k t : Nat) : Prop := ∃ (C : String) (T : u_T) (N : Nat) (ty : Nat → FieldType), vwCl[ci]? = some (C, T, N) ∧ k < N ∧ (∀ w ∈ u_ws C T N, w ∈ zTs) ∧ (∀ a, a < N → ∀ b, b < N → a ≠ b → (T a).2.1 ≠ (T b).2.1) ∧ (∀ k, k < N → parseFieldDescriptor (T k).2.2.1 = some (ty k)) ∧ (T k).2.2.2 = false ∧ parseFieldDescriptor (T k).2.2.1 = some (ty k) ∧ ((t = 0 ∧ ty k = .int) ∨ (t = 1 ∧ ty k = .long) ∨ (t = 3 ∧ ty k = .boolean))

def zmk (mt : zMt) (k : Nat) : Prop := Cond.code mt.1 mt.2.1 mt.2.2.1 mt.2.2.2 ∈ zTs ∧ Cond.initialized mt.1.cls ∈ zTs ∧ (mt.1.cls ≠ "java/lang/invoke/MethodHandle" ∧ mt.1.cls ≠ "java/lang/invoke/VarHandle" ∧ (parseMethodDescriptor mt.1.desc).map (fun d => d.parameters.length) = some k) ∧ plainName mt.1.cls = true ∧ mt.2.2.1 ≤ 41
def zlk (own : String) (idx : Nat) (y : MethodName) : Prop := Cond.methodLink own idx y ∈ zTs ∨ ∃ host, Cond.methodLinkNest own idx y host ∈ zNs

def zdf (t : Nat) : Value := match t with
  | 1 => .long 0
  | 2 => .null
  | _ => .int 0

def znw (own : String) (idx ci N : Nat) : Prop := ∃ (C : String) (T : u_T) (ty : Nat → FieldType), vwCl[ci]? = some (C, T, N) ∧ Cond.classLink own idx C ∈ zTs ∧ Cond.instantiable C N ∈ zTs ∧ Cond.initialized C ∈ zTs ∧ (∀ w ∈ u_ws C T N, w ∈ zTs) ∧ (∀ k, k < N → parseFieldDescriptor (T k).2.2.1 = some (ty k)) ∧ (∀ j, j < N → defaultValue (ty j) = zdf ((zfd ci).getD j 0))
def zpr (own : String) (ci k : Nat) : Prop := ∃ (C : String) (T : u_T) (N : Nat) (ty : Nat → FieldType), vwCl[ci]? = some (C, T, N) ∧ k < N ∧ (∀ w ∈ u_ws C T N, w ∈ zTs) ∧ (∀ a, a < N → ∀ b, b < N → a ≠ b → (T a).2.1 ≠ (T b).2.1) ∧ (∀ k, k < N → parseFieldDescriptor (T k).2.2.1 = some (ty k)) ∧ (T k).2.2.2 = true ∧ (T k).1 = own ∧ ((∃ C', ty k = .object C') ∨ ∃ C', ty k = .array C')

theorem zT_of {i : Nat} {w : Cond} (h : lw_tbl[i]? = some w) (g : goodWord w = true) : w ∈ zTs := List.mem_filter.mpr ⟨List.mem_of_getElem? h, g⟩
theorem zm_1 {i : Nat} {w : Cond} (h0 : tables_1_1[i]? = some w) : w ∈ lw_tbl := by
  have h := List.mem_of_getElem? h0
  exact List.mem_append_right _ (List.mem_append_left _ h)
theorem zT_1 {i : Nat} {w : Cond} (h : tables_1_1[i]? = some w) (g : goodWord w = true) : w ∈ zTs := List.mem_filter.mpr ⟨zm_1 h, g⟩
theorem zN_1 {i : Nat} {w : Cond} (h : tables_1_1[i]? = some w) (g : znest w = true) : w ∈ zNs := List.mem_filter.mpr ⟨zm_1 h, g⟩
theorem zm_2 {i : Nat} {w : Cond} (h0 : tables_1_2[i]? = some w) : w ∈ lw_tbl := by
  have h := List.mem_of_getElem? h0
  exact List.mem_append_right _ (List.mem_append_right _ (List.mem_append_left _ h))
theorem zT_2 {i : Nat} {w : Cond} (h : tables_1_2[i]? = some w) (g : goodWord w = true) : w ∈ zTs := List.mem_filter.mpr ⟨zm_2 h, g⟩
theorem zN_2 {i : Nat} {w : Cond} (h : tables_1_2[i]? = some w) (g : znest w = true) : w ∈ zNs := List.mem_filter.mpr ⟨zm_2 h, g⟩
theorem zm_3 {i : Nat} {w : Cond} (h0 : tables_1_3[i]? = some w) : w ∈ lw_tbl := by
  have h := List.mem_of_getElem? h0
  exact List.mem_append_right _ (List.mem_append_right _ (List.mem_append_right _ (List.mem_append_left _ h)))
theorem zT_3 {i : Nat} {w : Cond} (h : tables_1_3[i]? = some w) (g : goodWord w = true) : w ∈ zTs := List.mem_filter.mpr ⟨zm_3 h, g⟩
theorem zN_3 {i : Nat} {w : Cond} (h : tables_1_3[i]? = some w) (g : znest w = true) : w ∈ zNs := List.mem_filter.mpr ⟨zm_3 h, g⟩
theorem zm_4 {i : Nat} {w : Cond} (h0 : tables_1_4[i]? = some w) : w ∈ lw_tbl := by
  have h := List.mem_of_getElem? h0
  exact List.mem_append_right _ (List.mem_append_right _ (List.mem_append_right _ (List.mem_append_right _ (List.mem_append_left _ h))))
theorem zT_4 {i : Nat} {w : Cond} (h : tables_1_4[i]? = some w) (g : goodWord w = true) : w ∈ zTs := List.mem_filter.mpr ⟨zm_4 h, g⟩
theorem zN_4 {i : Nat} {w : Cond} (h : tables_1_4[i]? = some w) (g : znest w = true) : w ∈ zNs := List.mem_filter.mpr ⟨zm_4 h, g⟩
theorem zm_5 {i : Nat} {w : Cond} (h0 : tables_1_5[i]? = some w) : w ∈ lw_tbl := by
  have h := List.mem_of_getElem? h0
  exact List.mem_append_right _ (List.mem_append_right _ (List.mem_append_right _ (List.mem_append_right _ (List.mem_append_right _ (List.mem_append_left _ h)))))
theorem zT_5 {i : Nat} {w : Cond} (h : tables_1_5[i]? = some w) (g : goodWord w = true) : w ∈ zTs := List.mem_filter.mpr ⟨zm_5 h, g⟩
theorem zN_5 {i : Nat} {w : Cond} (h : tables_1_5[i]? = some w) (g : znest w = true) : w ∈ zNs := List.mem_filter.mpr ⟨zm_5 h, g⟩
theorem zm_6 {i : Nat} {w : Cond} (h0 : tables_1_6[i]? = some w) : w ∈ lw_tbl := by
  have h := List.mem_of_getElem? h0
  exact List.mem_append_right _ (List.mem_append_right _ (List.mem_append_right _ (List.mem_append_right _ (List.mem_append_right _ (List.mem_append_right _ (List.mem_append_left _ h))))))
theorem zT_6 {i : Nat} {w : Cond} (h : tables_1_6[i]? = some w) (g : goodWord w = true) : w ∈ zTs := List.mem_filter.mpr ⟨zm_6 h, g⟩
theorem zN_6 {i : Nat} {w : Cond} (h : tables_1_6[i]? = some w) (g : znest w = true) : w ∈ zNs := List.mem_filter.mpr ⟨zm_6 h, g⟩
theorem zm_7 {i : Nat} {w : Cond} (h0 : tables_1_7[i]? = some w) : w ∈ lw_tbl := by
  have h := List.mem_of_getElem? h0
  exact List.mem_append_right _ (List.mem_append_right _ (List.mem_append_right _ (List.mem_append_right _ (List.mem_append_right _ (List.mem_append_right _ (List.mem_append_right _ (List.mem_append_left _ h)))))))
theorem zT_7 {i : Nat} {w : Cond} (h : tables_1_7[i]? = some w) (g : goodWord w = true) : w ∈ zTs := List.mem_filter.mpr ⟨zm_7 h, g⟩
theorem zN_7 {i : Nat} {w : Cond} (h : tables_1_7[i]? = some w) (g : znest w = true) : w ∈ zNs := List.mem_filter.mpr ⟨zm_7 h, g⟩
theorem zm_8 {i : Nat} {w : Cond} (h0 : tables_1_8[i]? = some w) : w ∈ lw_tbl := by
  have h := List.mem_of_getElem? h0
  exact List.mem_append_right _ (List.mem_append_right _ (List.mem_append_right _ (List.mem_append_right _ (List.mem_append_right _ (List.mem_append_right _ (List.mem_append_right _ (List.mem_append_right _ (List.mem_append_left _ h))))))))
theorem zT_8 {i : Nat} {w : Cond} (h : tables_1_8[i]? = some w) (g : goodWord w = true) : w ∈ zTs := List.mem_filter.mpr ⟨zm_8 h, g⟩
theorem zN_8 {i : Nat} {w : Cond} (h : tables_1_8[i]? = some w) (g : znest w = true) : w ∈ zNs := List.mem_filter.mpr ⟨zm_8 h, g⟩
theorem zm_9 {i : Nat} {w : Cond} (h0 : tables_1_9[i]? = some w) : w ∈ lw_tbl := by
  have h := List.mem_of_getElem? h0
  exact List.mem_append_right _ (List.mem_append_right _ (List.mem_append_right _ (List.mem_append_right _ (List.mem_append_right _ (List.mem_append_right _ (List.mem_append_right _ (List.mem_append_right _ (List.mem_append_right _ (List.mem_append_left _ h)))))))))
theorem zT_9 {i : Nat} {w : Cond} (h : tables_1_9[i]? = some w) (g : goodWord w = true) : w ∈ zTs := List.mem_filter.mpr ⟨zm_9 h, g⟩
theorem zN_9 {i : Nat} {w : Cond} (h : tables_1_9[i]? = some w) (g : znest w = true) : w ∈ zNs := List.mem_filter.mpr ⟨zm_9 h, g⟩
theorem zm_10 {i : Nat} {w : Cond} (h0 : tables_1_10[i]? = some w) : w ∈ lw_tbl := by
  have h := List.mem_of_getElem? h0
  exact List.mem_append_right _ (List.mem_append_right _ (List.mem_append_right _ (List.mem_append_right _ (List.mem_append_right _ (List.mem_append_right _ (List.mem_append_right _ (List.mem_append_right _ (List.mem_append_right _ (List.mem_append_right _ (h))))))))))
theorem zT_10 {i : Nat} {w : Cond} (h : tables_1_10[i]? = some w) (g : goodWord w = true) : w ∈ zTs := List.mem_filter.mpr ⟨zm_10 h, g⟩
theorem zN_10 {i : Nat} {w : Cond} (h : tables_1_10[i]? = some w) (g : znest w = true) : w ∈ zNs := List.mem_filter.mpr ⟨zm_10 h, g⟩
