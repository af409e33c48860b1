section YK
variable {G : zG} {d : Nat} {M : zM} {Q : zV → zM → Prop}
/-- how many nodes -/
def zcnt (st v : Int → Int) : Nat → Int → Int
  | 0 => fun _ => 0
  | k + 1 => zup (zcnt st v k) k (1 + zsuN (fun j => zcnt st v k (zcd st v k j)) (zpn (st k) (v k)).toNat)
theorem zcnt_at {st v : Int → Int} (k : Nat) : zcnt st v (k + 1) k = 1 + zsuN (fun j => zcnt st v k (zcd st v k j)) (zpn (st k) (v k)).toNat := zup_at _ _ _
theorem zcnt_ne {st v : Int → Int} {k : Nat} {i : Int} (h : i ≠ k) : zcnt st v (k + 1) i = zcnt st v k i := zup_ne h
theorem zcnt_st {st v : Int → Int} {k : Nat} {i : Int} (i1 : i < (k : Int)) : ∀ n : Nat, zcnt st v (k + n) i = zcnt st v k i
  | 0 => rfl
  | n + 1 => (zcnt_ne (k := k + n) (by omega)).trans (zcnt_st i1 n)
theorem zhv_at {st v : Int → Int} (k : Nat) : zhv st v (k + 1) k = 1 + zmx (fun j => zhv st v k (zcd st v k j)) (zpn (st k) (v k)).toNat := zup_at _ _ _
theorem zhv_ne {st v : Int → Int} {k : Nat} {i : Int} (h : i ≠ k) : zhv st v (k + 1) i = zhv st v k i := zup_ne h
theorem zhv_st {st v : Int → Int} {k : Nat} {i : Int} (i1 : i < (k : Int)) : ∀ n : Nat, zhv st v (k + n) i = zhv st v k i
  | 0 => rfl
  | n + 1 => (zhv_ne (k := k + n) (by omega)).trans (zhv_st i1 n)
theorem zmx_ge {c : Int → Int} : ∀ (n : Nat) (j : Int), 0 ≤ j → j < (n : Int) → c j ≤ zmx c n
  | 0, j, j0, j1 => by omega
  | n + 1, j, j0, j1 => by
    show c j ≤ max (zmx c n) (c n)
    by_cases e : j = n
    · rw [e]; omega
    · have := zmx_ge (c := c) n j j0 (by omega)
      omega
theorem zmx_0 {c : Int → Int} : ∀ n : Nat, 0 ≤ zmx c n
  | 0 => by show (0 : Int) ≤ 0; decide
  | n + 1 => by
    have := zmx_0 (c := c) n
    show 0 ≤ max (zmx c n) (c n); omega
theorem zcnt_1 {st v : Int → Int} {len : Int} (h : zwf st v len) : ∀ (k : Nat), (k : Int) ≤ len → ∀ i, 0 ≤ i → i < (k : Int) → 1 ≤ zcnt st v k i
  | 0, _, i, i0, i1 => by omega
  | k + 1, hk, i, i0, i1 => by
    by_cases c : i = k
    · rw [c, zcnt_at]
      have := zsuN_0 (f := fun j => zcnt st v k (zcd st v k j)) (zpn (st k) (v k)).toNat (fun j j0 j1 => by
        have w := zwf_cd h (k := k) (by omega) (j := j) ⟨j0, by omega⟩
        have := zcnt_1 h k (by omega) _ w.1 w.2
        show 0 ≤ zcnt st v k (zcd st v k j); omega)
      omega
    · rw [zcnt_ne c]; exact zcnt_1 h k (by omega) i i0 (by omega)
theorem zcnt_sum {st v : Int → Int} {len : Int} (h : zwf st v len) : ∀ (k : Nat), (k : Int) ≤ len → zsuN (fun m => zcnt st v k ((zsp st v k).2 m)) (zsp st v k).1.toNat = k
  | 0, _ => rfl
  | k + 1, hk => by
    have ih := zcnt_sum h k (by omega)
    have q := h.1 k (by omega)
    have inn := zsp_in (st := st) (v := v) k (fun i hi => (h.1 i (by omega)).2.1)
    have b := q.2.1
    unfold zbs at b
    obtain ⟨B, hB⟩ := Int.eq_ofNat_of_zero_le b.2
    obtain ⟨P, hP⟩ := Int.eq_ofNat_of_zero_le b.1
    have e1 : (zsp st v (k + 1)).1 = (B : Int) + 1 := by show (zsp st v k).1 - zpn (st k) (v k) + 1 = _; omega
    have e2 : (zsp st v (k + 1)).2 = zup (zsp st v k).2 B k := by show zup (zsp st v k).2 ((zsp st v k).1 - zpn (st k) (v k)) k = _; rw [hB]
    rw [e1, e2, show ((B : Int) + 1).toNat = B + 1 by omega]
    show zsuN _ B + zcnt st v (k + 1) (zup (zsp st v k).2 B k B) = ((k + 1 : Nat) : Int)
    rw [zup_at, zcnt_at]
    rw [show (zsp st v k).1.toNat = B + P by omega, zsuN_add] at ih
    have s1 : zsuN (fun m => zcnt st v (k + 1) (zup (zsp st v k).2 B k m)) B = zsuN (fun m => zcnt st v k ((zsp st v k).2 m)) B := zsuN_c B (fun j j0 j1 => by
      rw [zup_ne (by omega), zcnt_ne (by have := inn.2 j j0 (by omega); omega)])
    have s2 : zsuN (fun j => zcnt st v k (zcd st v k j)) P = zsuN (fun j => zcnt st v k ((zsp st v k).2 (B + j))) P := zsuN_c P (fun j j0 j1 => by unfold zcd zbs; rw [hB])
    rw [s1, hP, Int.toNat_natCast, s2]
    omega
theorem zcnt_le {st v : Int → Int} {len : Int} (h : zwf st v len) {k : Nat} (hk : (k : Int) < len) : zcnt st v (k + 1) k ≤ k + 1 := by
  have s := zcnt_sum h (k + 1) (by omega)
  have q := h.1 k (by omega)
  have b := q.2.1
  unfold zbs at b
  obtain ⟨B, hB⟩ := Int.eq_ofNat_of_zero_le b.2
  have e1 : (zsp st v (k + 1)).1 = (B : Int) + 1 := by show (zsp st v k).1 - zpn (st k) (v k) + 1 = _; omega
  have e2 : (zsp st v (k + 1)).2 = zup (zsp st v k).2 B k := by show zup (zsp st v k).2 ((zsp st v k).1 - zpn (st k) (v k)) k = _; rw [hB]
  rw [e1, show ((B : Int) + 1).toNat = B + 1 by omega] at s
  have s' : zsuN (fun m => zcnt st v (k + 1) ((zsp st v (k + 1)).2 m)) B + zcnt st v (k + 1) ((zsp st v (k + 1)).2 B) = ((k + 1 : Nat) : Int) := s
  have p := zsuN_0 (f := fun m => zcnt st v (k + 1) ((zsp st v (k + 1)).2 m)) B (fun j j0 j1 => by
    have inn := (zsp_in (st := st) (v := v) (k + 1) (fun i hi => (h.1 i (by omega)).2.1)).2 j j0 (by omega)
    have := zcnt_1 h (k + 1) (by omega) _ inn.1 inn.2
    show 0 ≤ zcnt st v (k + 1) ((zsp st v (k + 1)).2 j); omega)
  have e3 : (zsp st v (k + 1)).2 B = k := by rw [e2, zup_at]
  rw [e3] at s'
  omega
/-- what saying touches -/
def zqR (o s0 : Int) (M N : zM) : Prop := ∀ a i, N a i = M a i ∨ (a = o ∧ i = 8) ∨ ((o + 1 ≤ a ∧ a ≤ o + 7) ∧ s0 ≤ i) ∨ a = o + 8
theorem zqR_rf {o s0 : Int} : zqR o s0 M M := fun _ _ => Or.inl rfl
theorem zqR_tr {o s0 s1 : Int} {M1 M2 : zM} (hs : s0 ≤ s1) (h1 : zqR o s0 M M1) (h2 : zqR o s1 M1 M2) : zqR o s0 M M2 := fun a i => by
  rcases h2 a i with q | q | q | q
  · rcases h1 a i with r | r
    · exact Or.inl (q.trans r)
    · exact Or.inr r
  · exact Or.inr (Or.inl q)
  · exact Or.inr (Or.inr (Or.inl ⟨q.1, by omega⟩))
  · exact Or.inr (Or.inr (Or.inr q))
theorem zqR_K {o s0 w : Int} {M1 : zM} (hw : s0 ≤ w) (h : zqK o w (fun i => w < i) M M1) : zqR o s0 M M1 := fun a i => by
  rcases h a i with q | q | q | q
  · exact Or.inl q
  · exact Or.inr (Or.inr (Or.inl ⟨by omega, by omega⟩))
  · exact Or.inr (Or.inr (Or.inl ⟨by omega, by omega⟩))
  · exact Or.inr (Or.inr (Or.inr q))
/-- a whole stays while what lies behind it is made -/
theorem zqW_R {o w k v top : Int} {n : Nat} {ps : List zPe} {s1 : Int} {M' : zM} (hR : zqR o s1 M M') (h1 : top ≤ s1) (h8 : s1 ≤ M' o 8 ∧ M' o 8 ≤ 300) (hW : zqW M o w k v top n ps) {top' : Int} (ht : top ≤ top' ∧ top' ≤ M' o 8) : zqW M' o w k v top' n ps := by
  obtain ⟨⟨g1, g2⟩, g3, g4, g5, g6, g7, g8⟩ := hW
  have e : ∀ a i, (o + 1 ≤ a ∧ a ≤ o + 7) → i < s1 → M' a i = M a i := fun a i ha hi => by
    rcases hR a i with q | q | q | q
    · exact q
    · omega
    · omega
    · omega
  refine ⟨⟨by rw [e _ _ (by omega) (by omega)]; exact g1, by rw [e _ _ (by omega) (by omega)]; exact g2⟩, by rw [e _ _ (by omega) (by omega)]; exact g3, ?_, by rw [e _ _ (by omega) (by omega)]; exact g5, ⟨fun p hp => by have := g6.1 p hp; omega, g6.2⟩, fun p hp => ?_, by omega⟩
  · rw [e _ _ (by omega) (by omega)]
    exact zqN_c ps _ (fun p hp => by have := g6.1 p hp; exact e _ _ (by omega) (by omega)) g4
  · have dp := g6.1 p hp
    refine ⟨zqE_c n _ _ _ (fun i i0 i1 => ⟨e _ _ (by omega) (by omega), e _ _ (by omega) (by omega), e _ _ (by omega) (by omega), e _ _ (by omega) (by omega)⟩) (fun i i0 i1 => ⟨e _ _ (by omega) (by omega), e _ _ (by omega) (by omega)⟩) (g7 p hp).1, ?_⟩
    rw [e _ _ (by omega) (by omega)]; exact (g7 p hp).2
theorem zna_f {s v : Int} {c : Int → List Int} : ∀ n : Nat, ¬ s = 2 → zna s v c n = (zLs (fun i => (0, c i)) n)
  | 0, _ => rfl
  | n + 1, h => by
    show zna s v c n ++ [(if s = 2 ∧ zsg v n then 1 else 0, c n)] = zLs _ n ++ [(0, c n)]
    rw [zna_f n h, if_neg (fun z => h z.1)]
theorem znC_e {eq s v vv : Int} {c : Int → List Int} {l : List znT} (hs : 0 ≤ s ∧ s ≤ 10) (hv : s < 2 ∨ s = 10 → vv = v) (hl : l = znt s (zapk eq s) (zna s v c (zpn s v).toNat)) : znC eq s vv l = znsn eq s v c := by
  unfold znC znsn
  by_cases c0 : s < 2
  · rw [if_pos c0, if_pos c0, hv (Or.inl c0)]
  · rw [if_neg c0, if_neg c0]
    by_cases c1 : s < 4
    · rw [if_pos c1, if_pos c1]
      have ea : zapk eq s = zbt eq (s - 2) := by
        unfold zapk
        by_cases c2 : s = 2
        · rw [if_pos c2, c2]; rfl
        · rw [if_neg c2, if_pos (by omega), show s = 3 by omega]; rfl
      rw [hl, ea]
      rfl
    · rw [if_neg c1, if_neg c1]
      have ea : zapk eq s = false := by unfold zapk; rw [if_neg (by omega), if_neg (by omega)]
      rw [ea, znt_f, zna_f _ (by omega)] at hl
      by_cases c2 : s < 6
      · have pn : zpn s v = 1 := by unfold zpn; rw [if_neg (by omega), if_neg (by omega), if_neg (by omega), if_pos (by omega)]
        rw [pn] at hl
        rw [if_pos c2, if_pos c2, hl]; rfl
      · rw [if_neg c2, if_neg c2]
        by_cases c3 : s < 8
        · have pn : zpn s v = 2 := by unfold zpn; rw [if_neg (by omega), if_neg (by omega), if_neg (by omega), if_neg (by omega), if_pos (by omega)]
          rw [pn] at hl
          rw [if_pos c3, if_pos c3, hl]; rfl
        · rw [if_neg c3, if_neg c3]
          by_cases c4 : s < 10
          · have pn : zpn s v = 2 := by unfold zpn; rw [if_neg (by omega), if_neg (by omega), if_neg (by omega), if_neg (by omega), if_pos (by omega)]
            rw [pn] at hl
            rw [if_pos c4, if_pos c4, hl]; rfl
          · have pn : zpn s v = 4 := by unfold zpn; rw [if_neg (by omega), if_neg (by omega), if_neg (by omega), if_neg (by omega), if_neg (by omega)]
            rw [pn] at hl
            rw [if_neg c4, if_neg c4, hl, hv (Or.inr (by omega))]; rfl
end YK
