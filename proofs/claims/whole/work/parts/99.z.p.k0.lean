section KQ
variable {X M : zM} {o r lo n n' e k kR j v : Int}
/-- all that lies from o to e is made -/
def kq_f (X M : zM) (o e : Int) : zM := fun a i => if o ≤ a ∧ a ≤ e then X a i else M a i
/-- o is being made: k slots stand, and kR of the row r; what lies from lo to n is made -/
def kq (X M : zM) (o r lo n k kR : Int) : zM := fun a i => if a = o then (if 0 ≤ i ∧ i < k then X a i else 0) else if a = r then (if 0 ≤ i ∧ i < kR then X a i else 0) else if lo ≤ a ∧ a ≤ n then X a i else M a i
theorem kq_0 (h1 : ∀ y, M o y = 0) (h2 : ∀ y, M r y = 0) (hlo : n < lo) : M = kq X M o r lo n 0 0 := by
  funext a i
  unfold kq
  by_cases c : a = o
  · rw [if_pos c, if_neg (by omega), c]; exact h1 i
  · rw [if_neg c]
    by_cases c2 : a = r
    · rw [if_pos c2, if_neg (by omega), c2]; exact h2 i
    · rw [if_neg c2, if_neg (by omega)]
theorem kq_n (hn : n' = n + 1) (hM : ∀ y, M n' y = 0) (hX : ∀ y, X n' y = 0) : kq X M o r lo n k kR = kq X M o r lo n' k kR := by
  funext a i
  unfold kq
  by_cases c : a = o
  · rw [if_pos c, if_pos c]
  · rw [if_neg c, if_neg c]
    by_cases c2 : a = r
    · rw [if_pos c2, if_pos c2]
    · rw [if_neg c2, if_neg c2]
      by_cases c3 : a = n'
      · rw [if_neg (by omega), c3, hM, hX]; split <;> rfl
      · by_cases c4 : lo ≤ a ∧ a ≤ n
        · rw [if_pos c4, if_pos ⟨c4.1, by omega⟩]
        · rw [if_neg c4, if_neg (by omega)]
theorem kq_nR (hn : n' = n + 1) (hr : r = n') : kq X M o r lo n k kR = kq X M o r lo n' k kR := by
  funext a i
  unfold kq
  by_cases c : a = o
  · rw [if_pos c, if_pos c]
  · rw [if_neg c, if_neg c]
    by_cases c2 : a = r
    · rw [if_pos c2, if_pos c2]
    · rw [if_neg c2, if_neg c2]
      by_cases c4 : lo ≤ a ∧ a ≤ n
      · rw [if_pos c4, if_pos ⟨c4.1, by omega⟩]
      · rw [if_neg c4, if_neg (by omega)]
theorem kq_o (hn : n' = n + 1) (ho : o ≤ n) (hr : r ≤ n ∨ e < r) (hlo : lo ≤ n') (he : n ≤ e) : kq_f X (kq X M o r lo n k kR) n' e = kq X M o r lo e k kR := by
  funext a i
  unfold kq_f
  by_cases c : n' ≤ a ∧ a ≤ e
  · rw [if_pos c]
    unfold kq
    rw [if_neg (by omega), if_neg (by omega), if_pos (by omega)]
  · rw [if_neg c]
    unfold kq
    by_cases c1 : a = o
    · rw [if_pos c1, if_pos c1]
    · rw [if_neg c1, if_neg c1]
      by_cases c2 : a = r
      · rw [if_pos c2, if_pos c2]
      · rw [if_neg c2, if_neg c2]
        by_cases c4 : lo ≤ a ∧ a ≤ n
        · rw [if_pos c4, if_pos (by omega)]
        · rw [if_neg c4, if_neg (by omega)]
theorem kq_p (hj : 0 ≤ k ∧ k ≤ j) (hz : ∀ i, k ≤ i → i < j → X o i = 0) (hv : X o j = v) : zset (kq X M o r lo n k kR) o j v = kq X M o r lo n (j + 1) kR := by
  funext a i
  unfold zset kq
  by_cases c : a = o
  · rw [if_pos c, if_pos c]
    by_cases c1 : i = j
    · rw [if_pos ⟨c, c1⟩, if_pos (by omega), c, c1, hv]
    · rw [if_neg (fun q => c1 q.2)]
      by_cases c2 : 0 ≤ i ∧ i < k
      · rw [if_pos c2, if_pos (by omega)]
      · rw [if_neg c2]
        by_cases c3 : 0 ≤ i ∧ i < j + 1
        · rw [if_pos c3, c]; exact (hz i (by omega) (by omega)).symm
        · rw [if_neg c3]
  · rw [if_neg (fun q => c q.1), if_neg c, if_neg c]
theorem kq_pr (hne : r ≠ o) (hj : 0 ≤ j) (hv : X r j = v) : zset (kq X M o r lo n k j) r j v = kq X M o r lo n k (j + 1) := by
  funext a i
  unfold zset kq
  by_cases c : a = o
  · rw [if_neg (fun q => hne (q.1.symm.trans c)), if_pos c, if_pos c]
  · rw [if_neg c, if_neg c]
    by_cases c2 : a = r
    · rw [if_pos c2, if_pos c2]
      by_cases c1 : i = j
      · rw [if_pos ⟨c2, c1⟩, if_pos (by omega), c2, c1, hv]
      · rw [if_neg (fun q => c1 q.2)]
        by_cases c3 : 0 ≤ i ∧ i < j
        · rw [if_pos c3, if_pos (by omega)]
        · rw [if_neg c3, if_neg (by omega)]
    · rw [if_neg (fun q => c2 q.1), if_neg c2, if_neg c2]
theorem kq_e (hlo : lo = o + 1) (he : o ≤ e) (hX : ∀ i, (i < 0 ∨ k ≤ i) → X o i = 0) (hR : r = o ∨ ((o < r ∧ r ≤ e) ∧ ∀ i, (i < 0 ∨ kR ≤ i) → X r i = 0)) : kq X M o r lo e k kR = kq_f X M o e := by
  funext a i
  unfold kq kq_f
  by_cases c : a = o
  · rw [if_pos c, if_pos (show o ≤ a ∧ a ≤ e by omega)]
    by_cases c2 : 0 ≤ i ∧ i < k
    · rw [if_pos c2]
    · rw [if_neg c2, c]; exact (hX i (by omega)).symm
  · rw [if_neg c]
    by_cases c2 : a = r
    · rw [if_pos c2]
      rcases hR with q | ⟨q, q2⟩
      · exact absurd (c2.trans q) c
      · rw [if_pos (show o ≤ a ∧ a ≤ e by omega)]
        by_cases c3 : 0 ≤ i ∧ i < kR
        · rw [if_pos c3]
        · rw [if_neg c3, c2]; exact (q2 i (by omega)).symm
    · rw [if_neg c2]
      by_cases c3 : o ≤ a ∧ a ≤ e
      · rw [if_pos c3, if_pos (by omega)]
      · rw [if_neg c3, if_neg (by omega)]
theorem kq_fr (hM : ∀ a y, lo ≤ a → M a y = 0) (hlo : lo ≤ n') (hn : n' = n + 1) (ho : o ≤ n) (hr : r ≤ n ∨ kR = 0) : ∀ a y, n' ≤ a → kq X M o r lo n k kR a y = 0 := by
  intro a y h
  unfold kq
  rw [if_neg (by omega)]
  by_cases c2 : a = r
  · rw [if_pos c2, if_neg (by omega)]
  · rw [if_neg c2, if_neg (by omega)]; exact hM a y (by omega)
theorem kq_at (hk : 0 ≤ j ∧ j < k) : kq X M o r lo n k kR o j = X o j := by
  unfold kq; rw [if_pos rfl, if_pos hk]
theorem zfx_tl {K : Nat} (h : (zfxL.getD o.toNat []).length = K) : ∀ i, (i < 0 ∨ (K : Int) ≤ i) → zfx o i = 0 := by
  intro i hi
  unfold zfx
  split
  · rw [List.getD_eq_getElem?_getD, List.getElem?_eq_none (by omega)]; rfl
  · rfl
theorem kq_fo {a : Int} (h : a < o ∨ e < a) : kq_f X M o e a = M a := by
  funext i; unfold kq_f; rw [if_neg (by omega)]
end KQ
section KZ
variable {G : zG} {d : Nat} {mt : zMt} {pc : Nat} {ls st stk : List zV} {n n1 n2 : Nat} {M M' : zM} {Q : zV → zM → Prop}
theorem k_M (h : M = M') (k : Z G d mt pc ls st n n1 M' Q) : Z G d mt pc ls st n n1 M Q := by rw [h]; exact k
theorem k_ci {mt2 : zMt} {idx : Nat} {b : Int} {as en : List zV} (hd : decode mt.2.1 pc = .ok (.invokespecial idx, 3)) (hk : zlk mt.1.cls idx mt2.1) (hm : zmk mt2 as.length) (hi : Cond.instanceMethod mt2.1 ∈ zTs) (hnm : mt2.1.name = "<init>") (hrt : mt2.2.2.2 = none)
    (hsk : stk = as.reverse ++ (2, b) :: st) (hb : 1 ≤ b) (hcs : zcs st ≤ 8) (hex : (zex ((2, b) :: as)).length ≤ mt2.2.2.1) (hn2 : n ≤ n2 ∧ n2 ≤ n1) (hen : zen ((2, b) :: as) mt2.2.2.1 = en)
    (h : Z G d mt2 0 en [] n n2 M (fun r M' => Z G (d + 1) mt (pc + 3) ls (zpush r st) n2 n1 M' Q)) : Z G (d + 1) mt pc ls stk n n1 M Q := z_calli hd hk hm hi hnm hrt hsk hb hcs hex hn2 (by rw [hen]; exact h)
/-- other references are fixed from here on -/
def kG (G : zG) (F : zM) : zG := (G.1, G.2.1, G.2.2.1, G.2.2.2.1, G.2.2.2.2.1, G.2.2.2.2.2.1, F)
theorem k_sw {F : zM} (hF : ∀ a i, F a i ≠ 0 → M a i = F a i) (h0 : ∀ a i, G.2.2.2.2.2.2 a i = 0) (h : Z (kG G F) d mt pc ls st n n1 M Q) : Z G d mt pc ls st n n1 M Q := by
  intro oM oF oL oS p e R s m args below meth c H locs c1 s1 lsC QS X hS hr hl hll hz hn hc hs hE
  exact h oM hF oL oS p e R s m args below meth c H locs c1 s1 lsC QS X hS hr hl hll hz hn hc hs (fun v M' H' locs' c' s' pc' ls' a1 a2 a3 a4 => hE v M' H' locs' c' s' pc' ls' a1 (fun a i q => absurd (h0 a i) q) a3 a4)
end KZ
