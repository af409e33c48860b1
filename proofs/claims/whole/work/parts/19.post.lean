def zfxL : List (List Int) := [[], [2, 12, 18, 0, 19, 157, 165, 170, 176, 184], [3, 4, 5, 6, 0, 7, 8, 9, 10, 11], [], [], [], [], [], [], [], [], [], [13], [14, 0, 15, 16, 17], [], [], [], [], [186, 198, 210, 222], [20, 21, 22, 23, 24, 25, 26, 27, 0, 0, 28, 29, 30, 0, 31, 40], [], [], [], [], [], [], [], [], [49, 58, 67, 76, 85, 94, 103, 112, 121, 130, 139, 148], [], [], [32, 33, 34, 35, 36, 37, 38, 39], [], [], [], [], [], [], [], [], [41, 42, 43, 44, 45, 46, 47, 48], [], [], [], [], [], [], [], [], [50, 51, 52, 53, 54, 55, 56, 57], [], [], [], [], [], [], [], [], [59, 60, 61, 62, 63, 64, 65, 66], [], [], [], [], [], [], [], [], [68, 69, 70, 71, 72, 73, 74, 75], [], [], [], [], [], [], [], [], [77, 78, 79, 80, 81, 82, 83, 84], [], [], [], [], [], [], [], [], [86, 87, 88, 89, 90, 91, 92, 93], [], [], [], [], [], [], [], [], [95, 96, 97, 98, 99, 100, 101, 102], [], [], [], [], [], [], [], [], [104, 105, 106, 107, 108, 109, 110, 111], [], [], [], [], [], [], [], [], [113, 114, 115, 116, 117, 118, 119, 120], [], [], [], [], [], [], [], [], [122, 123, 124, 125, 126, 127, 128, 129], [], [], [], [], [], [], [], [], [131, 132, 133, 134, 135, 136, 137, 138], [], [], [], [], [], [], [], [], [140, 141, 142, 143, 144, 145, 146, 147], [], [], [], [], [], [], [], [], [149, 150, 151, 152, 153, 154, 155, 156], [], [], [], [], [], [], [], [], [158, 159, 160, 161, 162, 0, 0, 163, 164], [], [], [], [], [], [], [], [166, 167, 168, 169], [], [], [], [], [171, 172, 173, 174, 175], [], [], [], [], [], [177, 178, 0, 179, 0, 180, 181, 0, 182, 183], [], [], [], [], [], [], [], [185], [], [187, 188, 0, 0, 189], [], [], [190, 191, 192, 193, 194, 195, 196, 197], [], [], [], [], [], [], [], [], [199, 200, 0, 0, 201], [], [], [202, 203, 204, 205, 206, 207, 208, 209], [], [], [], [], [], [], [], [], [211, 212, 0, 0, 213], [], [], [214, 215, 216, 217, 218, 219, 220, 221], [], [], [], [], [], [], [], [], [223, 224, 0, 0, 225], [], [], [226, 227, 228, 229, 230, 231, 232, 233], [], [], [], [], [], [], [], [], [235, 236, 237, 238, 239, 0, 0, 0, 0, 0, 0, 0, 0, 240, 0, 0, 0, 241, 242, 243, 244, 245, 0, 0, 0, 0, 0, 0, 246, 247, 248, 249, 250, 251, 252, 253, 0, 254, 255, 256, 0, 257, 258, 259, 260, 261, 262, 263, 264, 265, 266, 267], [], [], [], [], [], [], [], [], [], [], [], [], [], [], [], [], [], [], [], [], [], [], [], [], [], [], [], [], [], [], [], [], []]
def zfx (a i : Int) : Int := if 0 ≤ a ∧ 0 ≤ i then (zfxL.getD a.toNat []).getD i.toNat 0 else 0
theorem zsh_out {q : Nat} (h : 268 ≤ q) : zsh q = (0, 0) := by
  unfold zsh
  rw [List.getD_eq_getElem?_getD, List.getElem?_eq_none (by rw [show zshL.length = 268 by decide +kernel]; exact h)]
  rfl
theorem za_of {a : Int} {k len : Nat} (hs : zsh a.toNat = (k, len)) (hl : len ≠ 0) : 1 ≤ a ∧ a ≤ (267 : Nat) := by
  by_cases h1 : 268 ≤ a.toNat
  · rw [zsh_out h1] at hs; cases hs; exact absurd rfl hl
  · by_cases h2 : a.toNat = 0
    · rw [h2] at hs
      have : zsh 0 = (0, 0) := by decide +kernel
      rw [this] at hs; cases hs; exact absurd rfl hl
    · exact ⟨by omega, by omega⟩
theorem zfx_arr {a i : Int} {k len : Nat} (hs : zsh a.toNat = (k, len)) (hk : k = 100 ∨ k = 101 ∨ k = 102) : zfx a i = 0 := by
  unfold zfx
  split
  · have h1 : a.toNat < 268 := by
      by_cases h : 268 ≤ a.toNat
      · rw [zsh_out h] at hs; cases hs; omega
      · omega
    have hall : ∀ q, q < 268 → ((zsh q).1 = 100 ∨ (zsh q).1 = 101 ∨ (zsh q).1 = 102) → zfxL.getD q [] = [] := by decide +kernel
    rw [hall a.toNat h1 (by rw [hs]; exact hk)]
    rfl
  · rfl
theorem zfx_fld {a : Int} {k ci len : Nat} (hs : zsh a.toNat = (ci, len)) (hc : ci < 100 ∧ k < len) (ht : (zfd ci).getD k 0 ≠ 2) : zfx a k = 0 := by
  unfold zfx
  split
  · have h1 : a.toNat < 268 := by
      by_cases h : 268 ≤ a.toNat
      · rw [zsh_out h] at hs; cases hs; omega
      · omega
    have hall : ∀ q, q < 268 → (zsh q).1 < 100 → ∀ k, k < (zsh q).2 → (zfd (zsh q).1).getD k 0 ≠ 2 → (zfxL.getD q []).getD k 0 = 0 := by decide +kernel
    exact hall a.toNat h1 (by rw [hs]; exact hc.1) k (by rw [hs]; exact hc.2) (by rw [hs]; exact ht)
  · rfl
theorem zfx_20 (i : Int) : zfx 20 i = 0 := by
  unfold zfx
  split
  · rfl
  · rfl
/-- the two objects are made -/
def zfmL : List (List Int) := [[], [2, 0, 99], [30, 2, 0, 7, 31, 2, 0, 7], [2, 0, 5, 32, 2, 0, 5, 33, 2, 1, 99], [2, 0, 255], [2, 1, 99, 34, 2, 0, 32767, 32, 2, 0, 99, 35, 2, 0, 8, 33, 2, 1, 16], [2, 0, 9999], [2, 0, 5, 2, 0, 11], [29, 2, 0, 99], []]
def zfl (f : Int) : Int := ((zfmL.getD f.toNat []).length : Int)
def zfm (f i : Int) : Int := (zfmL.getD f.toNat []).getD i.toNat 0
def zP (G : zG) : Prop := G.2.2.2.2.2.2 = zfx ∧ ∀ k : Nat, 1 ≤ k → k < 10 → G.2.2.2.2.2.1 k = ((zfmL.getD k []).length, fun j => Int32.ofInt ((zfmL.getD k []).getD j 0))
abbrev Y (G : zG) (d : Nat) (mt : zMt) (pc : Nat) (ls st : List zV) (M : zM) (Q : zV → zM → Prop) : Prop := Z G d mt pc ls st 267 267 M Q
section YR
variable {G : zG} {d : Nat} {mt : zMt} {pc : Nat} {ls st stk : List zV} {M : zM} {Q : zV → zM → Prop}
theorem y_getf {a x : Int} {idx ci k len t : Nat} (hd : decode mt.2.1 pc = .ok (.getfield idx, 3)) (hg : zgf mt.1.cls idx ci k) (hs : zsh a.toNat = (ci, len)) (hc : ci < 100 ∧ k < len) (ht : zft ((zfd ci).getD k 0) = t) (hx : M a k = x) (h : Y G d mt (pc + 3) ls ((t, x) :: st) M Q) : Y G d mt pc ls ((2, a) :: st) M Q :=
  z_getfield hd hg hs hc ht (za_of hs (by omega)) (by rw [hx]; exact h)
theorem y_getr {a v : Int} {idx ci k len : Nat} (hG : zP G) (hd : decode mt.2.1 pc = .ok (.getfield idx, 3)) (hg : zgf mt.1.cls idx ci k) (hs : zsh a.toNat = (ci, len)) (hc : ci < 100 ∧ k < len) (ht : zft ((zfd ci).getD k 0) = 2) (hv : zfx a k = v) (hv0 : v ≠ 0) (h : Y G d mt (pc + 3) ls ((2, v) :: st) M Q) : Y G d mt pc ls ((2, a) :: st) M Q :=
  z_getref hd hg hs hc ht (za_of hs (by omega)) (by rw [show G.2.2.2.2.2.2 = zfx from hG.1]; exact hv) hv0 h
theorem y_iald {a i x : Int} {len : Nat} (hd : decode mt.2.1 pc = .ok (.iaload, 1)) (hs : zsh a.toNat = (100, len)) (hi : 0 ≤ i ∧ i < len) (hx : M a i = x) (h : Y G d mt (pc + 1) ls ((0, x) :: st) M Q) : Y G d mt pc ls ((0, i) :: (2, a) :: st) M Q :=
  z_iaload hd hs (za_of hs (by omega)) hi (by rw [hx]; exact h)
theorem y_lald {a i x : Int} {len : Nat} (hd : decode mt.2.1 pc = .ok (.laload, 1)) (hs : zsh a.toNat = (101, len)) (hi : 0 ≤ i ∧ i < len) (hx : M a i = x) (h : Y G d mt (pc + 1) ls ((1, x) :: st) M Q) : Y G d mt pc ls ((0, i) :: (2, a) :: st) M Q :=
  z_laload hd hs (za_of hs (by omega)) hi (by rw [hx]; exact h)
theorem y_zald {a i x : Int} {len : Nat} (hd : decode mt.2.1 pc = .ok (.baload, 1)) (hs : zsh a.toNat = (102, len)) (hi : 0 ≤ i ∧ i < len) (hx : M a i = x) (h : Y G d mt (pc + 1) ls ((0, x) :: st) M Q) : Y G d mt pc ls ((0, i) :: (2, a) :: st) M Q :=
  z_zaload hd hs (za_of hs (by omega)) hi (by rw [hx]; exact h)
theorem y_aalds {a i v : Int} {len : Nat} (hG : zP G) (hd : decode mt.2.1 pc = .ok (.aaload, 1)) (hs : zsh a.toNat = (103, len)) (hi : 0 ≤ i ∧ i < len) (hv : zfx a i = v) (hv0 : v ≠ 0) (h : Y G d mt (pc + 1) ls ((2, v) :: st) M Q) : Y G d mt pc ls ((0, i) :: (2, a) :: st) M Q :=
  z_facts fun _ oF _ _ => z_aaloads hd hs (za_of hs (by omega)) hi (by rw [oF a i (by rw [show G.2.2.2.2.2.2 = zfx from hG.1, hv]; exact hv0), show G.2.2.2.2.2.2 = zfx from hG.1, hv]; exact h)
theorem y_aaldn {a i v : Int} {len : Nat} (hG : zP G) (hd : decode mt.2.1 pc = .ok (.aaload, 1)) (hs : zsh a.toNat = (104, len)) (hi : 0 ≤ i ∧ i < len) (hv : zfx a i = v) (hv0 : v ≠ 0) (h : Y G d mt (pc + 1) ls ((2, v) :: st) M Q) : Y G d mt pc ls ((0, i) :: (2, a) :: st) M Q :=
  z_facts fun _ oF _ _ => z_aaloadn hd hs (za_of hs (by omega)) hi (by rw [oF a i (by rw [show G.2.2.2.2.2.2 = zfx from hG.1, hv]; exact hv0), show G.2.2.2.2.2.2 = zfx from hG.1, hv]; exact h)
theorem y_aaldt {i x : Int} (hd : decode mt.2.1 pc = .ok (.aaload, 1)) (hi : 0 ≤ i ∧ i < (12 : Nat)) (hx : M 20 i = x) (h : Y G d mt (pc + 1) ls ((2, x) :: st) M Q) : Y G d mt pc ls ((0, i) :: (2, 20) :: st) M Q :=
  z_aaloadn (a := 20) (len := 12) hd (by decide +kernel) (by decide) hi (by rw [hx]; exact h)
theorem y_put {a v : Int} {idx ci k len t t' : Nat} (hG : zP G) (hd : decode mt.2.1 pc = .ok (.putfield idx, 3)) (hg : zgf mt.1.cls idx ci k) (hs : zsh a.toNat = (ci, len)) (hc : ci < 100 ∧ k < len) (ht : (zfd ci).getD k 0 = t ∧ zft t = t') (hp : zpf ci k t) (hv : t = 3 → 0 ≤ v ∧ v ≤ 1) (ht2 : t ≠ 2) (h : Y G d mt (pc + 3) ls st (zset M a k v) Q) : Y G d mt pc ls ((t', v) :: (2, a) :: st) M Q :=
  z_putfield hd hg hs hc ht hp (za_of hs (by omega)) hv (by rw [show G.2.2.2.2.2.2 = zfx from hG.1]; exact zfx_fld hs hc (by rw [ht.1]; exact ht2)) h
theorem y_iast {a i v : Int} {len : Nat} (hG : zP G) (hd : decode mt.2.1 pc = .ok (.iastore, 1)) (hs : zsh a.toNat = (100, len)) (hi : 0 ≤ i ∧ i < len) (h : Y G d mt (pc + 1) ls st (zset M a i v) Q) : Y G d mt pc ls ((0, v) :: (0, i) :: (2, a) :: st) M Q :=
  z_iastore hd hs (za_of hs (by omega)) hi (by rw [show G.2.2.2.2.2.2 = zfx from hG.1]; exact zfx_arr hs (by omega)) h
theorem y_last {a i v : Int} {len : Nat} (hG : zP G) (hd : decode mt.2.1 pc = .ok (.lastore, 1)) (hs : zsh a.toNat = (101, len)) (hi : 0 ≤ i ∧ i < len) (h : Y G d mt (pc + 1) ls st (zset M a i v) Q) : Y G d mt pc ls ((1, v) :: (0, i) :: (2, a) :: st) M Q :=
  z_lastore hd hs (za_of hs (by omega)) hi (by rw [show G.2.2.2.2.2.2 = zfx from hG.1]; exact zfx_arr hs (by omega)) h
theorem y_zast {a i v : Int} {len : Nat} (hG : zP G) (hd : decode mt.2.1 pc = .ok (.bastore, 1)) (hs : zsh a.toNat = (102, len)) (hi : 0 ≤ i ∧ i < len) (hv : 0 ≤ v ∧ v ≤ 1) (h : Y G d mt (pc + 1) ls st (zset M a i v) Q) : Y G d mt pc ls ((0, v) :: (0, i) :: (2, a) :: st) M Q :=
  z_zastore hd hs (za_of hs (by omega)) hi hv (by rw [show G.2.2.2.2.2.2 = zfx from hG.1]; exact zfx_arr hs (by omega)) h
theorem y_aastt {i v : Int} {lv : Nat} (hG : zP G) (hd : decode mt.2.1 pc = .ok (.aastore, 1)) (hi : 0 ≤ i ∧ i < (12 : Nat)) (hsv : zsh v.toNat = (1, lv)) (hlv : lv ≠ 0) (h : Y G d mt (pc + 1) ls st (zset M 20 i v) Q) : Y G d mt pc ls ((2, v) :: (0, i) :: (2, 20) :: st) M Q :=
  z_aastoren (a := 20) (len := 12) hd (by decide +kernel) (by decide) hi (za_of hsv hlv) hsv (by rw [show G.2.2.2.2.2.2 = zfx from hG.1]; exact zfx_20 i) h
theorem y_alen {a x : Int} {kind len : Nat} (hd : decode mt.2.1 pc = .ok (.arraylength, 1)) (hs : zsh a.toNat = (kind, len)) (hk : 100 ≤ kind ∧ kind ≤ 104) (hl : len ≠ 0) (hx : (len : Int) = x) (h : Y G d mt (pc + 1) ls ((0, x) :: st) M Q) : Y G d mt pc ls ((2, a) :: st) M Q :=
  z_alen hd hs hk (za_of hs hl) (by rw [hx]; exact h)
theorem y_lenf {f : Int} (hG : zP G) (hd : decode mt.2.1 pc = .ok (.arraylength, 1)) (hf : 1 ≤ f ∧ f < 10) (h : Y G d mt (pc + 1) ls ((0, zfl f) :: st) M Q) : Y G d mt pc ls ((4, f) :: st) M Q := by
  have hx := hG.2 f.toNat (by omega) (by omega)
  have hall : ∀ k, k < 10 → (zfmL.getD k []).length < 100000 := by decide +kernel
  refine z_alenx hd ⟨by omega, by omega⟩ (by rw [hx]; exact hall _ (by omega)) ?_
  rw [hx]
  exact h
theorem y_ialdf {f i : Int} (hG : zP G) (hd : decode mt.2.1 pc = .ok (.iaload, 1)) (hf : 1 ≤ f ∧ f < 10) (hi : 0 ≤ i ∧ i < zfl f) (h : Y G d mt (pc + 1) ls ((0, zfm f i) :: st) M Q) : Y G d mt pc ls ((0, i) :: (4, f) :: st) M Q := by
  have hx := hG.2 f.toNat (by omega) (by omega)
  have hall : ∀ k, k < 10 → (zfmL.getD k []).length < 100000 ∧ ∀ v ∈ zfmL.getD k [], 0 ≤ v ∧ v < 100000 := by decide +kernel
  have h1 := hall f.toNat (by omega)
  unfold zfl at hi
  refine z_ialdx hd ⟨by omega, by omega⟩ (by rw [hx]; exact ⟨hi.1, hi.2, by omega⟩) ?_
  rw [hx]
  have e : (Int32.ofInt ((zfmL.getD f.toNat []).getD i.toNat 0)).toInt = zfm f i := by
    show _ = (zfmL.getD f.toNat []).getD i.toNat 0
    have hlt : i.toNat < (zfmL.getD f.toNat []).length := by omega
    have hm := h1.2 _ (List.getElem_mem hlt)
    rw [List.getD_eq_getElem?_getD, List.getElem?_eq_getElem hlt]
    exact z_ti ⟨by show -2147483648 ≤ _; have := hm.1; simp only [Option.getD_some]; omega, by have := hm.2; simp only [Option.getD_some]; omega⟩
  show Y G d mt (pc + 1) ls ((0, (Int32.ofInt ((zfmL.getD f.toNat []).getD i.toNat 0)).toInt) :: st) M Q
  rw [e]
  exact h
theorem y_callv {mt2 : zMt} {idx ci len : Nat} {b : Int} {as : List zV} (hd : decode mt.2.1 pc = .ok (.invokevirtual idx, 3)) (hk : zlk mt.1.cls idx mt2.1) (hm : zmk mt2 as.length) (hi : Cond.instanceMethod mt2.1 ∈ zTs) (hse : Cond.selects mt2.1.cls mt2.1 mt2.1 ∈ zTs)
    (hsk : stk = as.reverse ++ (2, b) :: st) (hsh : zsh b.toNat = (ci, len)) (hci : (ci < 100 ∧ (vwCl[ci]?).map (fun q => q.1) = some mt2.1.cls) ∧ len ≠ 0) (hcs : zcs st ≤ 8) (hex : (zex ((2, b) :: as)).length ≤ mt2.2.2.1)
    (h : Y G d mt2 0 (zen ((2, b) :: as) mt2.2.2.1) [] M (fun r M' => Y G (d + 1) mt (pc + 3) ls (zpush r st) M' Q)) : Y G (d + 1) mt pc ls stk M Q :=
  z_callv hd hk hm hi hse hsk (za_of hsh hci.2) hsh hci.1 hcs hex ⟨Nat.le_refl _, Nat.le_refl _⟩ h
theorem y_calls {mt2 : zMt} {idx : Nat} {as : List zV} (hd : decode mt.2.1 pc = .ok (.invokestatic idx, 3)) (hk : zlk mt.1.cls idx mt2.1) (hm : zmk mt2 as.length) (hi : Cond.static mt2.1 ∈ zTs)
    (hsk : stk = as.reverse ++ st) (hcs : zcs st ≤ 8) (hex : (zex as).length ≤ mt2.2.2.1)
    (h : Y G d mt2 0 (zen as mt2.2.2.1) [] M (fun r M' => Y G (d + 1) mt (pc + 3) ls (zpush r st) M' Q)) : Y G (d + 1) mt pc ls stk M Q :=
  z_calls hd hk hm hi hsk hcs hex ⟨Nat.le_refl _, Nat.le_refl _⟩ h
end YR
section ZMX
variable {G : zG} {d : Nat} {mt : zMt} {pc : Nat} {ls st stk : List zV} {n n1 : Nat} {M : zM} {Q : zV → zM → Prop}
def zMw (own : String) (idx : Nat) (x : MethodName) (c : ByteArray) (k : Nat) (r : Option FieldType) : Prop := Cond.methodLink own idx x ∈ zTs ∧ Cond.static x ∈ zTs ∧ Cond.initialized "java/lang/Math" ∈ zTs ∧ Cond.code x c k r ∈ zTs
theorem z_mx {a b r : Int} {idx : Nat} {t : Nat} {vA vB vR : Value} (hok : zokL ((t, b) :: (t, a) :: st) → zin t r) (hcs : zcs st ≤ 8)
    (hw : ∀ (p : Program) (e : Env) (R : Room) (s : State) (m : MethodId) (args : Array Value) (below : List Frame) (meth : Method) (c : Code) (H : Heap) (locs : List Loc) (c1 s1 : Nat) (lsC : Array Slot) (QS : State → Prop), p.tables.exec = Jvm.exec → c.code = mt.2.1 → c.maxLocals = lsC.size → s.vm.findClass mt.1.cls = some m.cls → zS G s → zokL ((t, b) :: (t, a) :: st) → 1 ≤ R.frames → ((st.map (zc G)).map fun v => v.category).sum + 15 ≤ R.locals → c1 ≤ R.cells → s1 ≤ R.slots →
      W p G.1 e R s m args below meth c H locs c1 s1 QS (F0 m (pc + 3) lsC (((t, r) :: st).map (zc G))) → W p G.1 e R s m args below meth c H locs c1 s1 QS (F0 m pc lsC (((t, b) :: (t, a) :: st).map (zc G))))
    (h : Z G (d + 1) mt (pc + 3) ls ((t, r) :: st) n n1 M Q) : Z G (d + 1) mt pc ls ((t, b) :: (t, a) :: st) n n1 M Q := by
  intro oM oF oL oS p e R s m args below meth c H locs c1 s1 lsC QS X hS hr hl hll hz hn hc hs hE
  have h1 := X.2.2.2.2.2.2.1
  have h2 := X.2.2.2.2.2.2.2.1
  exact hw p e R s m args below meth c H locs c1 s1 lsC QS X.1 X.2.1 (X.2.2.1.trans hl.1.symm) X.2.2.2.1 X.2.2.2.2.1 oS (by omega) (by rw [z_cs]; omega) (by omega) (by omega) (h oM oF oL (z_okc (hok oS) (z_okt (z_okt oS))) p e R s m args below meth c H locs c1 s1 lsC QS X hS hr hl hll hz hn hc hs hE)
theorem z_max {a b : Int} {idx : Nat} (hd : decode mt.2.1 pc = .ok (.invokestatic idx, 3)) (hk : zMw mt.1.cls idx Lib.Math.max.name Lib.Math.max.code 2 (some .int)) (hcs : zcs st ≤ 8) (h : Z G (d + 1) mt (pc + 3) ls ((0, max a b) :: st) n n1 M Q) : Z G (d + 1) mt pc ls ((0, b) :: (0, a) :: st) n n1 M Q := by
  refine z_mx (t := 0) (vA := .null) (vB := .null) (vR := .null) (idx := idx) (fun o => ?_) hcs (fun p e R s m args below meth c H locs c1 s1 lsC QS hx hb hml hown hZ o hf hl hc hs k => ?_) h
  · have hb := z_okh o; have ha := z_okh (z_okt o)
    rcases Int.le_total a b with q | q
    · rw [Int.max_eq_right q]; exact hb
    · rw [Int.max_eq_left q]; exact ha
  · have hts := zS_hts hZ args
    refine va_mmax hx hb hml hown (hts _ hk.1) (hts _ hk.2.1) (hts _ hk.2.2.1) (hts _ hk.2.2.2) hf (by omega) hc hs hd ?_
    have e : (if Int32.ofInt a < Int32.ofInt b then Int32.ofInt b else Int32.ofInt a) = Int32.ofInt (max a b) := by
      simp only [z_ilt (z_okh (z_okt o)) (z_okh o)]
      split
      · rw [Int.max_eq_right (by omega)]
      · rw [Int.max_eq_left (by omega)]
    rw [e]; exact k
theorem z_min {a b : Int} {idx : Nat} (hd : decode mt.2.1 pc = .ok (.invokestatic idx, 3)) (hk : zMw mt.1.cls idx Lib.Math.min.name Lib.Math.min.code 2 (some .int)) (hcs : zcs st ≤ 8) (h : Z G (d + 1) mt (pc + 3) ls ((0, min a b) :: st) n n1 M Q) : Z G (d + 1) mt pc ls ((0, b) :: (0, a) :: st) n n1 M Q := by
  refine z_mx (t := 0) (vA := .null) (vB := .null) (vR := .null) (idx := idx) (fun o => ?_) hcs (fun p e R s m args below meth c H locs c1 s1 lsC QS hx hb hml hown hZ o hf hl hc hs k => ?_) h
  · have hb := z_okh o; have ha := z_okh (z_okt o)
    rcases Int.le_total a b with q | q
    · rw [Int.min_eq_left q]; exact ha
    · rw [Int.min_eq_right q]; exact hb
  · have hts := zS_hts hZ args
    refine va_mmin hx hb hml hown (hts _ hk.1) (hts _ hk.2.1) (hts _ hk.2.2.1) (hts _ hk.2.2.2) hf (by omega) hc hs hd ?_
    first
      | (have e : (if Int32.ofInt a < Int32.ofInt b then Int32.ofInt a else Int32.ofInt b) = Int32.ofInt (min a b) := by
          simp only [z_ilt (z_okh (z_okt o)) (z_okh o)]
          split
          · rw [Int.min_eq_left (by omega)]
          · rw [Int.min_eq_right (by omega)]
         rw [e]; exact k)
      | (have e : (if Int32.ofInt b < Int32.ofInt a then Int32.ofInt b else Int32.ofInt a) = Int32.ofInt (min a b) := by
          simp only [z_ilt (z_okh o) (z_okh (z_okt o))]
          split
          · rw [Int.min_eq_right (by omega)]
          · rw [Int.min_eq_left (by omega)]
         rw [e]; exact k)
theorem z_lmax {a b : Int} {idx : Nat} (hd : decode mt.2.1 pc = .ok (.invokestatic idx, 3)) (hk : zMw mt.1.cls idx Lib.MathLoose.max_long.x Lib.MathLoose.max_long.code 4 (some .long)) (hcs : zcs st ≤ 8) (h : Z G (d + 1) mt (pc + 3) ls ((1, max a b) :: st) n n1 M Q) : Z G (d + 1) mt pc ls ((1, b) :: (1, a) :: st) n n1 M Q := by
  refine z_mx (t := 1) (vA := .null) (vB := .null) (vR := .null) (idx := idx) (fun o => ?_) hcs (fun p e R s m args below meth c H locs c1 s1 lsC QS hx hb hml hown hZ o hf hl hc hs k => ?_) h
  · have hb := z_okh o; have ha := z_okh (z_okt o)
    rcases Int.le_total a b with q | q
    · rw [Int.max_eq_right q]; exact hb
    · rw [Int.max_eq_left q]; exact ha
  · have hts := zS_hts hZ args
    refine va_mmax_long hx hb hml hown (hts _ hk.1) (hts _ hk.2.1) (hts _ hk.2.2.1) (hts _ hk.2.2.2) hf (by omega) hc hs hd ?_
    have e : (if Int64.ofInt b < Int64.ofInt a then Int64.ofInt a else Int64.ofInt b) = Int64.ofInt (max a b) := by
      have el : Int64.ofInt b < Int64.ofInt a ↔ b < a := by rw [Int64.lt_iff_toInt_lt, z_tl (z_okh o), z_tl (z_okh (z_okt o))]
      simp only [el]
      split
      · rw [Int.max_eq_left (by omega)]
      · rw [Int.max_eq_right (by omega)]
    rw [e]; exact k
theorem z_lmin {a b : Int} {idx : Nat} (hd : decode mt.2.1 pc = .ok (.invokestatic idx, 3)) (hk : zMw mt.1.cls idx Lib.MathLoose.min_long.x Lib.MathLoose.min_long.code 4 (some .long)) (hcs : zcs st ≤ 8) (h : Z G (d + 1) mt (pc + 3) ls ((1, min a b) :: st) n n1 M Q) : Z G (d + 1) mt pc ls ((1, b) :: (1, a) :: st) n n1 M Q := by
  refine z_mx (t := 1) (vA := .null) (vB := .null) (vR := .null) (idx := idx) (fun o => ?_) hcs (fun p e R s m args below meth c H locs c1 s1 lsC QS hx hb hml hown hZ o hf hl hc hs k => ?_) h
  · have hb := z_okh o; have ha := z_okh (z_okt o)
    rcases Int.le_total a b with q | q
    · rw [Int.min_eq_left q]; exact ha
    · rw [Int.min_eq_right q]; exact hb
  · have hts := zS_hts hZ args
    refine va_mmin_long hx hb hml hown (hts _ hk.1) (hts _ hk.2.1) (hts _ hk.2.2.1) (hts _ hk.2.2.2) hf (by omega) hc hs hd ?_
    first
      | (have e : (if Int64.ofInt a < Int64.ofInt b then Int64.ofInt a else Int64.ofInt b) = Int64.ofInt (min a b) := by
          have el : Int64.ofInt a < Int64.ofInt b ↔ a < b := by rw [Int64.lt_iff_toInt_lt, z_tl (z_okh o), z_tl (z_okh (z_okt o))]
          simp only [el]
          split
          · rw [Int.min_eq_left (by omega)]
          · rw [Int.min_eq_right (by omega)]
         rw [e]; exact k)
      | (have e : (if Int64.ofInt b < Int64.ofInt a then Int64.ofInt b else Int64.ofInt a) = Int64.ofInt (min a b) := by
          have el : Int64.ofInt b < Int64.ofInt a ↔ b < a := by rw [Int64.lt_iff_toInt_lt, z_tl (z_okh o), z_tl (z_okh (z_okt o))]
          simp only [el]
          split
          · rw [Int.min_eq_right (by omega)]
          · rw [Int.min_eq_left (by omega)]
         rw [e]; exact k)
end ZMX

