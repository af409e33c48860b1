section YE
variable {G : zG} {d : Nat} {M : zM} {Q : zV → zM → Prop}
/-! lists of pieces as rows -/
def zLp (A : Int → zPe) : Nat → List zPe
  | 0 => []
  | n + 1 => zLp A n ++ [A n]
def zupP (A : Int → zPe) (i : Int) (t : zPe) : Int → zPe := fun k => if k = i then t else A k
theorem zupP_at (A : Int → zPe) (i : Int) (t : zPe) : zupP A i t i = t := if_pos rfl
theorem zupP_ne {A : Int → zPe} {i k : Int} {t : zPe} (h : k ≠ i) : zupP A i t k = A k := if_neg h
theorem zLp_len (T : Int → zPe) : ∀ n : Nat, (zLp T n).length = n
  | 0 => rfl
  | n + 1 => by
    show (zLp T n ++ [T n]).length = n + 1
    rw [List.length_append, zLp_len T n]; rfl
theorem zLp_c {T T' : Int → zPe} : ∀ n : Nat, (∀ i, 0 ≤ i → i < (n : Int) → T' i = T i) → zLp T' n = zLp T n
  | 0, _ => rfl
  | n + 1, h => by
    show zLp T' n ++ [T' n] = zLp T n ++ [T n]
    rw [zLp_c n (fun i i0 i1 => h i i0 (by omega)), h n (by omega) (by omega)]
theorem zLp_mem {T : Int → zPe} {t : zPe} : ∀ n : Nat, t ∈ zLp T n ↔ ∃ i : Int, 0 ≤ i ∧ i < (n : Int) ∧ T i = t
  | 0 => ⟨fun h => (List.not_mem_nil h).elim, fun ⟨i, i0, i1, _⟩ => absurd i1 (by omega)⟩
  | n + 1 => by
    show t ∈ zLp T n ++ [T n] ↔ _
    rw [List.mem_append, zLp_mem n, List.mem_singleton]
    constructor
    · rintro (⟨i, i0, i1, e⟩ | e)
      · exact ⟨i, i0, by omega, e⟩
      · exact ⟨n, by omega, by omega, e.symm⟩
    · rintro ⟨i, i0, i1, e⟩
      by_cases c : i = n
      · exact Or.inr (by rw [← e, c])
      · exact Or.inl ⟨i, i0, by omega, e⟩
theorem zLp_cnt {T : Int → zPe} {i : Int} {a : zPe} (x : zPe) : ∀ n : Nat, 0 ≤ i → i < (n : Int) → List.count x (zLp (zupP T i a) n) + (if (T i == x) = true then 1 else 0) = List.count x (zLp T n) + (if (a == x) = true then 1 else 0)
  | 0, i0, i1 => by omega
  | n + 1, i0, i1 => by
    show List.count x (zLp (zupP T i a) n ++ [zupP T i a n]) + _ = List.count x (zLp T n ++ [T n]) + _
    rw [List.count_append, List.count_append, List.count_singleton, List.count_singleton]
    by_cases c : i = n
    · subst c
      rw [zupP_at, zLp_c (T := T) n (fun j j0 j1 => zupP_ne (by omega))]
      omega
    · rw [zupP_ne (fun e => c e.symm)]
      have := zLp_cnt (T := T) (a := a) x n i0 (by omega)
      omega
def zswP (T : Int → zPe) (i k : Int) : Int → zPe := zupP (zupP T i (T k)) k (T i)
theorem zswP_perm {T : Int → zPe} {i k : Int} {n : Nat} (hi : 0 ≤ i ∧ i < (n : Int)) (hk : 0 ≤ k ∧ k < (n : Int)) (hik : i ≠ k) : (zLp (zswP T i k) n).Perm (zLp T n) := by
  rw [List.perm_iff_count]
  intro x
  have a := zLp_cnt (T := T) (i := i) (a := T k) x n hi.1 hi.2
  have b := zLp_cnt (T := zupP T i (T k)) (i := k) (a := T i) x n hk.1 hk.2
  rw [zupP_ne (fun e => hik e.symm)] at b
  unfold zswP
  omega
theorem zLp_pw {T : Int → zPe} : ∀ n : Nat, (∀ i j, 0 ≤ i → i < j → j < (n : Int) → znle (T i).2 (T j).2) → (zq2 (zLp T n)).Pairwise znle
  | 0, _ => List.Pairwise.nil
  | n + 1, h => by
    show (List.map _ (zLp T n ++ [T n])).Pairwise znle
    rw [List.map_append, List.pairwise_append]
    refine ⟨zLp_pw n (fun i j i0 ij j1 => h i j i0 ij (by omega)), List.pairwise_singleton _ _, fun a ha b hb => ?_⟩
    obtain ⟨p, hp, e⟩ := List.mem_map.mp ha
    obtain ⟨i, i0, i1, e2⟩ := (zLp_mem n).mp hp
    have eb : b = (T n).2 := List.mem_singleton.mp hb
    rw [← e, ← e2, eb]
    exact h i n i0 (by omega) (by omega)
/-- any list is one of a row -/
theorem zLp_of : ∀ ps : List zPe, ∃ A : Int → zPe, zLp A ps.length = ps := fun ps => by
  have gen : ∀ (done rem : List zPe) (A : Int → zPe), zLp A done.length = done → ∃ B : Int → zPe, zLp B (done ++ rem).length = done ++ rem := fun done rem => by
    induction rem generalizing done with
    | nil => intro A h; rw [List.append_nil]; exact ⟨A, h⟩
    | cons p rem ih =>
      intro A h
      have := ih (done ++ [p]) (zupP A done.length p) (by
        rw [List.length_append]
        show zLp (zupP A done.length p) done.length ++ [zupP A done.length p (done.length : Int)] = _
        rw [zupP_at, zLp_c (T := A) done.length (fun i i0 i1 => zupP_ne (by omega)), h])
      rw [List.append_assoc] at this
      exact this
  exact gen [] ps (fun _ => ((0, 0), (0, []))) rfl
theorem zqD_perm {lo hi : Int} {ps qs : List zPe} (hp : ps.Perm qs) (h : zqD lo hi ps) : zqD lo hi qs := by
  refine ⟨fun p hp' => h.1 p (hp.mem_iff.mpr hp'), ?_⟩
  exact (hp.pairwise_iff (fun {x y} h => by unfold zqJ at *; omega)).mp h.2
theorem zqD_fil {lo hi : Int} {ps : List zPe} {f : zPe → Bool} (h : zqD lo hi ps) : zqD lo hi (ps.filter f) := ⟨fun p hp => h.1 p (List.mem_filter.mp hp).1, h.2.filter f⟩
theorem zqD_app {lo hi : Int} {ps qs : List zPe} (h : zqD lo hi (ps ++ qs)) : zqD lo hi ps := ⟨fun p hp => h.1 p (List.mem_append_left _ hp), (List.pairwise_append.mp h.2).1⟩
theorem zqP_K {o w : Int} {T : Int → Prop} {M' : zM} (h : zqK o w T M M') {n : Nat} {p : zPe} (hw : w < p.1.1) (ht : ∀ i, p.1.1 < i → i < p.1.2 → ¬ T i) (hs : M' (o + 3) p.1.1 = M (o + 3) p.1.1) (q : zqP M o n p) : zqP M' o n p := ⟨zqE_K h hw ht q.1, by rw [hs]; exact q.2⟩
/-- the row of the parts -/
def zrA (M : zM) (o : Int) (A : Int → zPe) (n : Nat) : Prop := ∀ i, 0 ≤ i → i < (n : Int) → M (o + 8) i = (A i).1.1
theorem zqN_i {o : Int} {A : Int → zPe} : ∀ (n : Nat) (y : Int), zqN M o y (zLp A n) → (0 < n → y = (A 0).1.1) ∧ ∀ i, 0 ≤ i → i + 1 < (n : Int) → M (o + 7) (A i).1.1 = (A (i + 1)).1.1 := fun n => by
  have gen : ∀ (l l' : List zPe) (y : Int), zqN M o y (l ++ l') → ∃ z, zqN M o z l' ∧ (l = [] → z = y) ∧ (∀ p, l.getLast? = some p → z = M (o + 7) p.1.1) ∧ zqN M o y l := fun l => by
    induction l with
    | nil => exact fun l' y h => ⟨y, h, fun _ => rfl, fun p hp => by (cases hp), trivial⟩
    | cons p l ih =>
      intro l' y h
      obtain ⟨z, h1, h2, h3, h4⟩ := ih l' _ h.2
      refine ⟨z, h1, fun c => absurd c (List.cons_ne_nil _ _), fun q hq => ?_, h.1, h4⟩
      cases l with
      | nil => injection hq with e; rw [← e]; exact h2 rfl
      | cons r l => exact h3 q (by rw [List.getLast?_cons_cons] at hq; exact hq)
  induction n with
  | zero => exact fun y _ => ⟨fun c => absurd c (by decide), fun i i0 i1 => by omega⟩
  | succ n ih =>
    intro y h
    have h' : zqN M o y (zLp A n ++ [A n]) := h
    obtain ⟨z, h1, h2, h3, h4⟩ := gen _ _ y h'
    obtain ⟨a, b⟩ := ih y h4
    have ez : z = (A n).1.1 := h1.1
    refine ⟨fun _ => ?_, fun i i0 i1 => ?_⟩
    · by_cases c : n = 0
      · subst c
        rw [← h2 rfl]; exact ez
      · exact a (by omega)
    · by_cases c : i + 1 = n
      · have gl : (zLp A n).getLast? = some (A i) := by
          cases n with
          | zero => omega
          | succ m =>
            show (zLp A m ++ [A m]).getLast? = _
            rw [List.getLast?_append]
            have : i = m := by omega
            subst this
            rfl
        rw [← h3 _ gl, ez, c]
      · exact b i i0 (by omega)
theorem s_collectParts (hG : zP G) {o w k v top : Int} {n : Nat} {m : Nat} {A : Int → zPe} (ho : zND o) (hW : zqW M o w k v top n (zLp A m)) (h : ∀ M', (∀ a i, M' a i = M a i ∨ a = o + 8) → zrA M' o A m → Q (0, (m : Int)) M') : Y G (d + 1) mX1_collectParts 0 [(2, o), (0, w), (9, 0), (9, 0), (9, 0)] [] M Q := by
  obtain ⟨⟨h1, h2⟩, ⟨h3, h3'⟩, h4, h5, h6, h7, h8⟩ := hW
  rw [zLp_len] at h3 h3'
  obtain ⟨c1, c2⟩ := zqN_i m _ h4
  have lp : ∀ (r i : Nat) (N : zM) (x : Int), i + r = m → (∀ a j, N a j = M a j ∨ a = o + 8) → (∀ j, 0 ≤ j → j < (i : Int) → N (o + 8) j = (A j).1.1) → (0 < r → x = (A i).1.1) → Y G (d + 1) mX1_collectParts 23 [(2, o), (0, w), (0, (m : Int)), (0, x), (0, (i : Int))] [] N Q := fun r => by
    induction r with
    | zero =>
      intro i N x hi hN hA hx
      have : i = m := by omega
      subst this
      exact bX1_collectParts_23 hG ho ⟨fun _ => h N hN hA, fun c => absurd c (by omega)⟩
    | succ r ih =>
      intro i N x hi hN hA hx
      have ex := hx (by omega)
      have pm := h6.1 (A i) ((zLp_mem m).mpr ⟨i, by omega, by omega, rfl⟩)
      have e8 : zset N (o + 8) i x o 8 = M o 8 := by
        rw [zset_off (by omega)]
        rcases hN o 8 with q | q
        · exact q
        · omega
      refine bX1_collectParts_23 hG ho ⟨fun c => absurd c (by omega), fun _ => ⟨by omega, by rw [e8]; omega, by omega, ?_⟩⟩
      rw [znf_in (by rw [e8]; omega), zset_off (by omega)]
      refine ih (i + 1) _ _ (by omega) (fun a j => ?_) (fun j j0 j1 => ?_) (fun hr => ?_)
      · by_cases c : a = o + 8
        · exact Or.inr c
        · rw [zset_ne (fun q => c q.1)]; exact hN a j
      · by_cases c : j = i
        · rw [c, zset_same]; exact ex
        · rw [zset_ne (fun q => c q.2)]; exact hA j j0 (by omega)
      · have := c2 i (by omega) (by omega)
        rcases hN (o + 7) x with q | q
        · rw [q, ex, this]
          show _ = (A ((i + 1 : Nat) : Int)).1.1
          rw [show ((i + 1 : Nat) : Int) = (i : Int) + 1 by omega]
        · omega
  refine bX1_collectParts_0 hG ho ⟨by omega, by omega, ?_⟩
  rw [znf_in (by omega), znf_in (by omega), h3, show min (m : Int) 16 = m by omega]
  exact lp m 0 M _ (by omega) (fun _ _ => Or.inl rfl) (fun j j0 j1 => absurd j1 (by omega)) c1
theorem zqW_8 {o w k v top : Int} {n : Nat} {ps : List zPe} {M' : zM} (h : ∀ a i, M' a i = M a i ∨ a = o + 8) (hW : zqW M o w k v top n ps) : zqW M' o w k v top n ps ∧ M' o 8 = M o 8 := by
  have e : ∀ a i, a ≠ o + 8 → M' a i = M a i := fun a i c => (h a i).resolve_right c
  have hK : zqK o w (fun _ => False) M M' := fun a i => (h a i).imp id (fun q => Or.inr (Or.inr q))
  obtain ⟨⟨h1, h2⟩, h3, h4, h5, h6, h7, h8⟩ := hW
  have e8 := e o 8 (by omega)
  refine ⟨⟨⟨by rw [e _ _ (by omega)]; exact h1, by rw [e _ _ (by omega)]; exact h2⟩, by rw [e _ _ (by omega)]; exact h3, ?_, by rw [e _ _ (by omega)]; exact h5, h6, fun p hp => ?_, by rw [e8]; exact h8⟩, e8⟩
  · rw [e _ _ (by omega)]
    exact zqN_c ps _ (fun p _ => e _ _ (by omega)) h4
  · exact zqP_K hK (h6.1 p hp).1 (fun i _ _ z => z) (e _ _ (by omega)) (h7 p hp)
/-- the parts of the row are chained anew, those that are kept -/
def zqS (M0 N : zM) (o w k v top : Int) (n : Nat) (A : Int → zPe) (m : Nat) (f : zPe → Bool) (i : Nat) : Prop :=
  zqW N o w k v top n ((zLp A i).filter f) ∧ (∀ j, (i : Int) ≤ j → j < (m : Int) → zqP N o n (A j)) ∧ zqK o w (fun t => ∃ p ∈ zLp A m, p.1.1 = t) M0 N ∧ zrA N o A m ∧ N o 8 = M0 o 8
theorem zqS_skip {M0 N : zM} {o w k v top : Int} {n m : Nat} {A : Int → zPe} {f : zPe → Bool} {i : Nat} (h : zqS M0 N o w k v top n A m f i) (hf : f (A i) = false) : zqS M0 N o w k v top n A m f (i + 1) := by
  obtain ⟨h1, h2, h3⟩ := h
  refine ⟨?_, fun j j0 j1 => h2 j (by omega) j1, h3⟩
  have : (zLp A (i + 1)).filter f = (zLp A i).filter f := by
    show (zLp A i ++ [A i]).filter f = _
    rw [List.filter_append, List.filter_cons, hf]
    exact List.append_nil _
  rw [this]; exact h1
theorem s_reb (hG : zP G) {M0 : zM} {o w k v top : Int} {n m : Nat} {A : Int → zPe} {f : zPe → Bool} {i : Nat} (ho : zND o) (hD : zqD w top (zLp A m)) (m16 : m ≤ 16) (hi : i < m) (h : zqS M0 M o w k v top n A m f i) (hf : f (A i) = true) (hQ : ∀ N, zqS M0 N o w k v top n A m f (i + 1) → Q (9, 0) N) : Y G d mX1_append 0 [(2, o), (0, w), (0, M (o + 8) i), (0, znf M o 3 (M (o + 8) i) 1), (9, 0)] [] M Q := by
  obtain ⟨hW, hR, hK, hA, h8⟩ := h
  have pi := hR i (by omega) (by omega)
  have ei := hA i (by omega) (by omega)
  have mi := (zLp_mem (T := A) m).mpr ⟨(i : Int), by omega, by omega, rfl⟩
  have di := hD.1 _ mi
  have tb := hW.2.2.2.2.2.2
  have eq : (zLp A (i + 1)).filter f = (zLp A i).filter f ++ [A i] := by
    show (zLp A i ++ [A i]).filter f = _
    rw [List.filter_append, List.filter_cons, hf]; rfl
  have pre : ∀ r : Nat, ∃ l, zLp A (i + 1 + r) = zLp A (i + 1) ++ l := fun r => by
    induction r with
    | zero => exact ⟨[], (List.append_nil _).symm⟩
    | succ r ih =>
      obtain ⟨l, hl⟩ := ih
      exact ⟨l ++ [A ((i + 1 + r : Nat) : Int)], by
        show zLp A (i + 1 + r) ++ [A ((i + 1 + r : Nat) : Int)] = _
        rw [hl, List.append_assoc]⟩
  obtain ⟨l, hl⟩ := pre (m - (i + 1))
  rw [show i + 1 + (m - (i + 1)) = m by omega] at hl
  have hD1 : zqD w top ((zLp A i).filter f ++ [A i]) := by
    rw [← eq]; rw [hl] at hD; exact zqD_fil (zqD_app hD)
  have fl : ((zLp A i).filter f).length ≤ i := by
    have := List.length_filter_le f (zLp A i)
    rw [zLp_len] at this; exact this
  rw [ei, znf_in (by omega), pi.2]
  refine s_append hG ho hW hD1 pi.1 (by omega) (fun N hN e8 e88 hW1 => hQ N ⟨by rw [eq]; exact hW1, fun j j0 j1 => ?_, ?_, fun j j0 j1 => ?_, e8.trans h8⟩)
  · have mj := (zLp_mem (T := A) m).mpr ⟨j, by omega, by omega, rfl⟩
    have dj := hD.1 _ mj
    have sub : ∀ t, (∃ p ∈ (zLp A i).filter f ++ [A i], p.1.1 = t) → ∃ p ∈ zLp A (i + 1), p.1.1 = t := fun t ⟨p, p1, p2⟩ => by
      rw [← eq] at p1
      exact ⟨p, (List.mem_filter.mp p1).1, p2⟩
    have not : ∀ t, (∃ p ∈ (zLp A i).filter f ++ [A i], p.1.1 = t) → ¬ (A j).1.1 = t ∧ ¬ ((A j).1.1 < t ∧ t < (A j).1.2) := fun t ht => by
      obtain ⟨p, p1, p2⟩ := sub t ht
      have pm : p ∈ zLp A m := by rw [hl]; exact List.mem_append_left _ p1
      have tt := zqD_t _ hD (A j) mj p pm
      rw [p2] at tt
      refine ⟨fun z => ?_, tt⟩
      -- no two begin at one place
      rw [hl] at hD
      have pw := (List.pairwise_append.mp hD.2).2.2 p p1 (A j) ?_
      · have dp := hD.1 p (List.mem_append_left _ p1)
        unfold zqJ at pw
        omega
      · have : A j ∈ zLp A (i + 1) ++ l := by rw [← hl]; exact mj
        rcases List.mem_append.mp this with w1 | w1
        · exfalso
          -- it stands at two places of the row: then the row isn't apart
          have hD2 := hD.2
          rw [← hl] at hD2
          obtain ⟨s, s0, s1, se⟩ := (zLp_mem (i + 1)).mp w1
          have two : ∀ (r : Nat) (a b : Int), 0 ≤ a → a < b → b < (r : Int) → (zLp A r).Pairwise zqJ → zqJ (A a) (A b) := fun r => by
            induction r with
            | zero => intro a b a0 ab br; omega
            | succ r ih =>
              intro a b a0 ab br hp
              have hp' := List.pairwise_append.mp (show (zLp A r ++ [A r]).Pairwise zqJ from hp)
              by_cases c : b = r
              · rw [c]
                exact hp'.2.2 _ ((zLp_mem r).mpr ⟨a, a0, by omega, rfl⟩) _ (List.mem_cons_self ..)
              · exact ih a b a0 ab (by omega) hp'.1
          have := two m s j s0 (by omega) (by omega) hD2
          rw [se] at this
          unfold zqJ at this
          omega
        · exact w1
    refine zqP_K hN dj.1 (fun t t0 t1 ht => (not t ht).2 ⟨t0, t1⟩) ?_ (hR j (by omega) (by omega))
    rcases hN (o + 3) (A j).1.1 with q | q | q | q
    · exact q
    · omega
    · exact absurd rfl (not _ q.2).1
    · omega
  · refine zqK_tr hK (zqK_mo (fun t ⟨p, p1, p2⟩ => ?_) hN)
    rw [← eq] at p1
    exact ⟨p, by rw [hl]; exact List.mem_append_left _ (List.mem_filter.mp p1).1, p2⟩
  · rw [e88]; exact hA j j0 j1
end YE
