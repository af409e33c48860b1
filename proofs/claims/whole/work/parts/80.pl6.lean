section PL6
variable {G : zG} {d : Nat} {M : zM} {Q : zV → zM → Prop}
def plR : List (Int × Int × Int) := [(165, 0, 1000000), (166, 0, 1000000), (167, 0, 1000000), (168, 0, 1000000), (169, 0, 1000000), (258, 0, 1000000), (259, 0, 1000000), (260, 0, 1000000), (261, 0, 1000000), (262, 0, 1000000), (263, 0, 1000000)]
def plW : List (Int × Int × Int) := zwyF ++ plR
theorem J_pl {M M2 : zM} (hJ : zJ M) (hf : zfr plW M M2) : zJn M M2 := by
  exact ⟨⟨zsA_c (zfr_sm hf (by decide)) hJ.1, zsI_c (zfr_sm hf (by decide)) hJ.2.1, zJ1_c (zfr_sm hf (by decide)) hJ.2.2.1, zJ2_c (zfr_sm hf (by decide)) hJ.1.2.1.1.2 hJ.2.2.2.1, zJ3_c (zfr_sm hf (by decide)) hJ.2.2.2.2.1, zJ4_c (zfr_sm hf (by decide)) hJ.1.2.1.1.2 hJ.2.2.2.2.2.1, zJ10_c (zfr_sm hf (by decide)) hJ.2.2.2.2.2.2.1, zJ5_c (zfr_sm hf (by decide)) hJ.2.2.2.2.2.2.2.1, zJ6_c (zfr_sm hf (by decide)) hJ.2.2.2.2.2.2.2.2.1, zJ7_c (zfr_sm hf (by decide)) hJ.2.2.2.2.2.2.2.2.2.1, zJ8_c (zfr_sm hf (by decide)) hJ.1.1.2 hJ.2.2.2.2.2.2.2.2.2.2.1, zJ9_c (zfr_sm hf (by decide)) hJ.2.2.2.2.2.2.2.2.2.2.2.1, zJ11_c (zfr_sm hf (by decide)) hJ.1.2.2.1.1.2 hJ.2.2.2.2.2.2.2.2.2.2.2.2.1, zJ12_c (zfr_sm hf (by decide)) hJ.2.2.2.2.2.2.2.2.2.2.2.2.2.1, zJ13_c (zfr_sm hf (by decide)) (zA5 hJ.1) hJ.2.2.2.2.2.2.2.2.2.2.2.2.2.2.1, zJ14_c (zfr_sm hf (by decide)) (zA7 hJ.1) hJ.2.2.2.2.2.2.2.2.2.2.2.2.2.2.2.1, zJ15_c (zfr_sm hf (by decide)) (zA8 hJ.1) hJ.2.2.2.2.2.2.2.2.2.2.2.2.2.2.2.2.1, zJ18_c (zfr_sm hf (by decide)) ⟨zA5 hJ.2.1, zA7 hJ.2.1, zA8 hJ.2.1⟩ hJ.2.2.2.2.2.2.2.2.2.2.2.2.2.2.2.2.2.1, zJ19_c (zfr_sm hf (by decide)) ⟨hJ.2.1.2.1.1.2, hJ.2.1.2.2.1.1.2⟩ hJ.2.2.2.2.2.2.2.2.2.2.2.2.2.2.2.2.2.2.1, zJ16_c (zfr_sm hf (by decide)) hJ.1.1.2 hJ.2.2.2.2.2.2.2.2.2.2.2.2.2.2.2.2.2.2.2.1, zJ17_c (zfr_sm hf (by decide)) hJ.2.1.1.2 hJ.2.2.2.2.2.2.2.2.2.2.2.2.2.2.2.2.2.2.2.2.1, zJF_c (zfr_sm hf (by decide)) hJ.1 hJ.2.2.2.2.2.2.2.2.2.2.2.2.2.2.2.2.2.2.2.1 hJ.2.2.2.2.2.2.2.2.2.2.2.2.2.2.2.2.2.2.2.2.2.1, zJS_c (zfr_sm hf (by decide)) hJ.1.1.2 hJ.2.2.2.2.2.2.2.2.2.2.2.2.2.2.2.2.2.2.2.1 hJ.2.2.2.2.2.2.2.2.2.2.2.2.2.2.2.2.2.2.2.2.2.2.1, (by rw [hf 2 10 (by unfold zhw zhit; decide)]; exact hJ.2.2.2.2.2.2.2.2.2.2.2.2.2.2.2.2.2.2.2.2.2.2.2.1), zJC_c (zfr_sm hf (by decide)) hJ.2.2.2.2.2.2.2.2.2.2.2.2.2.2.2.2.2.2.2.2.2.2.2.2⟩, by rw [hf 2 10 (by unfold zhw zhit; decide)]; omega⟩

theorem plW_c {X N : zM} (h : zfr plR X N) : zfr plW X N := zfr_sub h (fun t ht => List.mem_append_right _ ht)
section MO
variable {C : Nat → Nat → Bool} {L : Nat → Nat} {nq np : Nat}
theorem po_ls_m {n : Nat} (hn : n ≤ 6) {x : List Nat} (hx : x ∈ po_ls n) : ∃ l ∈ pl_pm n, x = l ++ (List.range 6).drop n ∧ x.take n = l ∧ x.length = 6 := by
  obtain ⟨l, h1, h2⟩ := List.mem_map.mp hx
  have hl := (pl_pm_m.mp h1).1
  refine ⟨l, h1, h2.symm, ?_, ?_⟩
  · rw [← h2, List.take_append_of_le_length (by omega), ← hl, List.take_length]
  · rw [← h2, List.length_append, List.length_drop, List.length_range, hl]; omega
abbrev po_re (C : Nat → Nat → Bool) (L : Nat → Nat) (nq np S : Nat) : Int × List Nat := pl_mo (po_v C L nq np S) (zpc S) (po_ls np) (-1) []
theorem m_mostOf (hG : zP G) (hX : ml_Cx M C L nq np) {S : Nat} (hS : S < 64) (h : ∀ g b, (0 ≤ (po_re C L nq np S).1 → po_a b (po_f (po_re C L nq np S).2)) → Q (0, (po_re C L nq np S).1) (zrow (zrow M 260 g) 261 b)) : Y G (d + 5) mX12_mostOf 0 [(2, 234), (0, (S : Int)), (9, 0), (9, 0), (9, 0), (9, 0)] [] M Q := by
  have n6 := hX.2.1
  obtain ⟨t1, t2⟩ := po_all np (by omega)
  refine bX12_mostOf_0 hG (m_first hG (fun g hg => bX12_mostOf_6 hG ?_))
  have hm : ∀ x ∈ po_ls np, x.length = 6 ∧ ∀ y ∈ x.take np, y < np := fun x hx => by
    obtain ⟨l, h1, h2, h3, h4⟩ := po_ls_m n6.1 hx
    exact ⟨h4, fun y hy => by rw [h3] at hy; exact (pl_pm_m.mp h1).2.2 y hy⟩
  unfold po_re at h
  cases hl : po_ls np with
  | nil => rw [hl] at t2; cases t2
  | cons R l =>
    rw [hl] at t1 t2 h hm
    have eR : R = [0, 1, 2, 3, 4, 5] := by
      have : some R = some [0, 1, 2, 3, 4, 5] := t2
      exact Option.some.inj this
    have := m_mostL (d := d) hG hX hS l R g ((zrow M 260 g) 261) (-1) [] t1 hm (by rw [eR]; exact hg) (fun z => absurd z (by decide)) (by decide) h
    rw [zrow_self] at this
    exact this
theorem pl_sub_tab : ∀ a : Nat, a < 64 → ∀ s : Nat, s < 64 → a &&& s = a → zpc a ≤ zpc s := by decide +kernel
theorem pl_sub {l : List Nat} {S : Nat} (hd : l.Nodup) (hl : ∀ x ∈ l, x < 6 ∧ S.testBit x = true) (hS : S < 64) : l.length ≤ zpc S := by
  rw [← pl_st_c l hd (fun x hx => (hl x hx).1)]
  refine pl_sub_tab _ (pl_st_lt (n := 6) l (fun x hx => (hl x hx).1)) S hS (Nat.eq_of_testBit_eq (fun i => ?_))
  rw [Nat.testBit_and]
  cases hb : (pl_st l).testBit i with
  | false => rfl
  | true => rw [(hl i ((pl_st_b l).mp hb)).2]; rfl
theorem po_le {S : Nat} (hS : S < 64) (hn : np ≤ 6) {l : List Nat} (hl : l ∈ pl_pm np) : pl_gr C L nq S l 0 ≤ zpc S := by
  obtain ⟨l', a1, a2, a3, a4⟩ := pl_gr_sub (C := C) (L := L) (nq := nq) (S := S) l 0
  have hm := pl_pm_m.mp hl
  rw [← a4]
  exact pl_sub (a1.nodup hm.2.1) (fun x hx => ⟨by have := hm.2.2 x (a1.subset hx); omega, a2 x hx⟩) hS
/-- what the model's search over all orders comes to -/
theorem po_res {S : Nat} (hS : S < 64) (hn : np ≤ 6) : (∀ l ∈ pl_pm np, (pl_gr C L nq S l 0 : Int) ≤ (po_re C L nq np S).1) ∧ (∃ l ∈ pl_pm np, (pl_gr C L nq S l 0 : Int) = (po_re C L nq np S).1) ∧ ((po_re C L nq np S).1 = zpc S → (po_ls np).find? (fun x => decide ((po_v C L nq np S x : Int) = zpc S)) = some (po_re C L nq np S).2) := by
  have hv : ∀ x ∈ po_ls np, (po_v C L nq np S x : Int) ≤ (zpc S : Int) := fun x hx => by
    obtain ⟨l, h1, h2, h3, h4⟩ := po_ls_m hn hx
    have := po_le (C := C) (L := L) (nq := nq) hS hn h1
    show ((pl_gr C L nq S (x.take np) 0 : Nat) : Int) ≤ _
    rw [h3]; omega
  obtain ⟨⟨a1, a2⟩, a3, a4⟩ := pl_mo_s (v := po_v C L nq np S) (nb := zpc S) (po_ls np) (-1) [] (by omega) hv
  have up : ∀ l ∈ pl_pm np, (pl_gr C L nq S l 0 : Int) ≤ (po_re C L nq np S).1 := fun l hl => by
    have hx : l ++ (List.range 6).drop np ∈ po_ls np := List.mem_map.mpr ⟨l, hl, rfl⟩
    have := a2 _ hx
    have e : (l ++ (List.range 6).drop np).take np = l := by
      have h1 := (pl_pm_m.mp hl).1
      rw [List.take_append_of_le_length (by omega), ← h1, List.take_length]
    have e2 : po_v C L nq np S (l ++ (List.range 6).drop np) = pl_gr C L nq S l 0 := by
      show pl_gr C L nq S ((l ++ (List.range 6).drop np).take np) 0 = _
      rw [e]
    rw [e2] at this
    exact this
  refine ⟨up, ?_, a4⟩
  rcases a3 with w | ⟨x, x1, x2⟩
  · exfalso
    obtain ⟨r, hr, -⟩ := pl_full (n := np) [] List.nodup_nil (fun x hx => absurd hx List.not_mem_nil)
    have := up _ hr
    rw [show (po_re C L nq np S).1 = -1 from w] at this
    omega
  · obtain ⟨l, h1, h2, h3, h4⟩ := po_ls_m hn x1
    refine ⟨l, h1, ?_⟩
    rw [← x2, ← h3]
theorem pl_all_b {n x : Nat} (hx : x < n) : (2 ^ n - 1).testBit x = true := by
  rw [Nat.testBit_two_pow_sub_one, decide_eq_true hx]
theorem pl_all_l {n : Nat} (hn : n ≤ 6) : 2 ^ n - 1 < 64 ∧ zpc (2 ^ n - 1) = n := by
  have : ∀ n : Nat, n < 7 → 2 ^ n - 1 < 64 ∧ zpc (2 ^ n - 1) = n := by decide +kernel
  exact this n (by omega)
theorem po_max (hn : np ≤ 6) : (po_re C L nq np (2 ^ np - 1)).1 = pl_mx (fun W => pl_ex C L nq np np 0 0 W) 64 := by
  obtain ⟨r1, ⟨l, r2, r3⟩, -⟩ := po_res (C := C) (L := L) (nq := nq) (np := np) (pl_all_l hn).1 hn
  obtain ⟨⟨m0, m1⟩, m2⟩ := pl_mx_s (f := fun W => pl_ex C L nq np np 0 0 W) 64
  refine Int.le_antisymm ?_ ?_
  · rw [← r3]
    obtain ⟨l', a1, a2, a3, a4⟩ := pl_gr_sub (C := C) (L := L) (nq := nq) (S := 2 ^ np - 1) l 0
    have hm := pl_pm_m.mp r2
    have hd := a1.nodup hm.2.1
    have hl : ∀ x ∈ l', x < np := fun x hx => hm.2.2 x (a1.subset hx)
    have hl6 : ∀ x ∈ l', x < 6 := fun x hx => by have := hl x hx; omega
    have := m1 (pl_st l') (pl_st_lt (n := 6) l' hl6) ((pl_ex_l np 0 0 (pl_st l')).mpr ⟨l', by have := a1.length_le; rw [hm.1] at this; exact this, hd, fun x hx => ⟨hl x hx, by simp⟩, a3, by rw [Nat.zero_or]⟩)
    rw [pl_st_c l' hd hl6, a4] at this
    exact this
  · rcases m2 with w | ⟨W, w1, w2, w3⟩
    · rw [w, ← r3]; omega
    · obtain ⟨l', b1, b2, b3, b4, b5⟩ := (pl_ex_l np 0 0 W).mp w2
      have hl6 : ∀ x ∈ l', x < 6 := fun x hx => by have := (b3 x hx).1; omega
      obtain ⟨r, hr, -⟩ := pl_full (n := np) l' b2 (fun x hx => (b3 x hx).1)
      have q1 := r1 _ hr
      have q2 := pl_gr_pre (C := C) (L := L) (nq := nq) (S := 2 ^ np - 1) (r := r) l' 0 (fun x hx => pl_all_b (b3 x hx).1) b4
      rw [← w3, b5, Nat.zero_or, pl_st_c l' b2 hl6]
      omega
theorem pl_pm_all {n : Nat} {l : List Nat} (hl : l ∈ pl_pm n) {x : Nat} (hx : x < n) : x ∈ l := by
  have hm := pl_pm_m.mp hl
  by_cases c : x ∈ l
  · exact c
  · exfalso
    obtain ⟨r, hr, -⟩ := pl_full (n := n) (x :: l) (List.nodup_cons.mpr ⟨c, hm.2.1⟩) (fun y hy => by
      rcases List.mem_cons.mp hy with e | e
      · rw [e]; exact hx
      · exact hm.2.2 y e)
    have := (pl_pm_m.mp hr).1
    rw [List.length_append, List.length_cons, hm.1] at this
    omega
theorem po_shut {S : Nat} (hn : np ≤ 6) (hS : S < 2 ^ np) : (po_re C L nq np S).1 = zpc S ↔ pl_ex C L nq np np 0 0 S = true := by
  have h64 := zpw6 hn
  obtain ⟨r1, ⟨l, r2, r3⟩, -⟩ := po_res (C := C) (L := L) (nq := nq) (np := np) (S := S) (by omega) hn
  constructor
  · intro h
    have hm := pl_pm_m.mp r2
    have hb : ∀ i, S.testBit i = true → i < np := fun i hi => by
      by_cases c : i < np
      · exact c
      · exfalso
        rw [Nat.testBit_lt_two_pow (Nat.lt_of_lt_of_le hS (Nat.pow_le_pow_right (by decide) (by omega)))] at hi
        exact Bool.noConfusion hi
    have hf : ∀ x ∈ l.filter (fun p => S.testBit p), S.testBit x = true := fun x hx => (List.mem_filter.mp hx).2
    have hd : (l.filter (fun p => S.testBit p)).Nodup := List.Nodup.sublist List.filter_sublist hm.2.1
    have hl : ∀ x ∈ l.filter (fun p => S.testBit p), x < np := fun x hx => hm.2.2 x (List.mem_filter.mp hx).1
    have hl6 : ∀ x ∈ l.filter (fun p => S.testBit p), x < 6 := fun x hx => by have := hl x hx; omega
    have es : pl_st (l.filter (fun p => S.testBit p)) = S := Nat.eq_of_testBit_eq (fun i => by
      cases hi : S.testBit i with
      | true => exact (pl_st_b _).mpr (List.mem_filter.mpr ⟨pl_pm_all r2 (hb i hi), hi⟩)
      | false =>
        cases hq : (pl_st (l.filter (fun p => S.testBit p))).testBit i with
        | false => rfl
        | true =>
          have := hf i ((pl_st_b _).mp hq)
          rw [hi] at this; exact Bool.noConfusion this)
    have el := pl_st_c _ hd hl6
    rw [es] at el
    have hk := (pl_gr_all (C := C) (L := L) (nq := nq) (S := S) _ 0 hf).mp (by rw [← pl_gr_fil, ← el]; omega)
    refine (pl_ex_l np 0 0 S).mpr ⟨_, ?_, hd, fun x hx => ⟨hl x hx, by simp⟩, hk, by rw [Nat.zero_or, es]⟩
    have := (List.filter_sublist (l := l) (p := fun p => S.testBit p)).length_le
    rw [hm.1] at this
    exact this
  · intro h
    obtain ⟨l', b1, b2, b3, b4, b5⟩ := (pl_ex_l np 0 0 S).mp h
    rw [Nat.zero_or] at b5
    have hl6 : ∀ x ∈ l', x < 6 := fun x hx => by have := (b3 x hx).1; omega
    obtain ⟨r, hr, -⟩ := pl_full (n := np) l' b2 (fun x hx => (b3 x hx).1)
    have q1 := r1 _ hr
    have q2 := pl_gr_pre (C := C) (L := L) (nq := nq) (S := S) (r := r) l' 0 (fun x hx => by rw [b5]; exact (pl_st_b l').mpr hx) b4
    have q3 := po_le (C := C) (L := L) (nq := nq) (S := S) (by omega) hn r2
    have q4 := pl_st_c l' b2 hl6
    rw [← b5] at q4
    omega
theorem pl_find_e {α : Type} {p q : α → Bool} : ∀ l : List α, (∀ x ∈ l, p x = q x) → l.find? p = l.find? q
  | [], _ => rfl
  | x :: l, h => by
    rw [List.find?_cons, List.find?_cons, h x List.mem_cons_self, pl_find_e l (fun y hy => h y (List.mem_cons_of_mem _ hy))]
theorem po_ord (hn : np ≤ 6) : ((po_re C L nq np (2 ^ np - 1)).1 = np ↔ pl_of C L nq np (List.range np) 0 ≠ none) ∧ ∀ l, pl_of C L nq np (List.range np) 0 = some l → (po_re C L nq np (2 ^ np - 1)).2 = l ++ (List.range 6).drop np := by
  obtain ⟨t1, t2⟩ := pl_all_l hn
  obtain ⟨r1, ⟨l0, r2, r3⟩, r4⟩ := po_res (C := C) (L := L) (nq := nq) (np := np) t1 hn
  rw [t2] at r4
  have ok : ∀ l ∈ pl_pm np, (pl_gr C L nq (2 ^ np - 1) l 0 = np ↔ pl_ok C L nq l 0 = true) := fun l hl => by
    have hm := pl_pm_m.mp hl
    have := pl_gr_all (C := C) (L := L) (nq := nq) (S := 2 ^ np - 1) l 0 (fun x hx => pl_all_b (hm.2.2 x hx))
    rw [hm.1] at this
    exact this
  have ef : (po_ls np).find? (fun x => decide ((po_v C L nq np (2 ^ np - 1) x : Int) = np)) = (pl_of C L nq np (List.range np) 0).map (fun l => l ++ (List.range 6).drop np) := by
    rw [pl_of_eq]
    unfold po_ls
    rw [List.find?_map]
    congr 1
    refine pl_find_e _ (fun l hl => ?_)
    have h1 := (pl_pm_m.mp hl).1
    have e : (l ++ (List.range 6).drop np).take np = l := by
      rw [List.take_append_of_le_length (by omega), ← h1, List.take_length]
    show decide (((pl_gr C L nq (2 ^ np - 1) ((l ++ (List.range 6).drop np).take np) 0 : Nat) : Int) = (np : Int)) = pl_ok C L nq l 0
    rw [e]
    have q := ok l hl
    cases hk : pl_ok C L nq l 0 with
    | true => rw [decide_eq_true (by rw [q.mpr hk])]
    | false => rw [decide_eq_false (fun z => by rw [q.mp (by omega)] at hk; exact Bool.noConfusion hk)]
  have key : (po_re C L nq np (2 ^ np - 1)).1 = np → (pl_of C L nq np (List.range np) 0).map (fun l => l ++ (List.range 6).drop np) = some (po_re C L nq np (2 ^ np - 1)).2 := fun h => by
    rw [← ef]; exact r4 h
  have back : pl_of C L nq np (List.range np) 0 ≠ none → (po_re C L nq np (2 ^ np - 1)).1 = np := fun h => by
    cases hq : pl_of C L nq np (List.range np) 0 with
    | none => exact absurd hq h
    | some l =>
      rw [pl_of_eq] at hq
      have hl := List.mem_of_find?_eq_some hq
      have hk := List.find?_some hq
      have a := r1 l hl
      rw [(ok l hl).mpr hk] at a
      have b := po_le (C := C) (L := L) (nq := nq) t1 hn r2
      rw [t2] at b
      omega
  refine ⟨⟨fun h z => ?_, back⟩, fun l hl => ?_⟩
  · have := key h
    rw [z] at this
    cases this
  · have := key (back (by rw [hl]; exact fun z => by cases z))
    rw [hl] at this
    exact (Option.some.inj this).symm
end MO
/-! both sides look things up alike -/
theorem m_plan (hG : zP G) {N : zM} (hC : zCk N N) (hf : zfr plR N M) {nq np : Nat} (eq : N 235 0 = nq) (ep : N 235 2 = np) (h : ∀ X, zfr plW N X → ml_Cx X (pl_C N) (pl_L N) nq np → Q (9, 0) X) : Y G (d + 6) mX12_findLike 0 [(2, 234), (9, 0), (9, 0)] [] M Q := by
  obtain ⟨hJ, -, e13, h27⟩ := hC
  have n12 : 0 ≤ N 235 0 ∧ N 235 0 ≤ 12 := hJ.1.1
  have n2 := hJ.1.2.2.1.1
  have jS := zj_jS hJ
  have KN := zK_of hJ
  have KM : zK M := ⟨zsA_c (zfr_sm hf (by decide)) KN.1, zJ1_c (zfr_sm hf (by decide)) KN.2.1, zJ16_c (zfr_sm hf (by decide)) KN.1.1.2 KN.2.2⟩
  have sm := zfr_sm (S := [(235, 0, 156), (246, 0, 12), (247, 0, 2880), (3, 0, 4)]) hf (by decide)
  have m235 : ∀ i, 0 ≤ i → i < 156 → M 235 i = N 235 i := fun i i0 i1 => sm _ _ (zhit_at 0 rfl ⟨i0, i1⟩)
  have fq : ∀ q, 0 ≤ q → q < N 235 0 → zqf M (M 235 4) q = zqf N (N 235 4) q := fun q q0 q1 => by
    rw [m235 4 (by decide) (by decide)]
    exact zqf_c (zfr_sm hf (by decide)) ⟨q0, by omega⟩ (KN.2.2 q q0 q1)
  have fa : ∀ q, 0 ≤ q → q < N 235 0 → zaM M (M 3) q = zaM N (N 3) q := fun q q0 q1 => by
    have jq := KN.2.2 q q0 q1
    rw [zaM_e (M := N) KN.1 (by have := jq.2.1; omega) (m235 1 (by decide) (by decide)) (fun i i0 i1 => m235 i (by omega) (by omega)) (sm _ _ (zhit_at 1 rfl ⟨q0, by omega⟩)) (fun i i0 i1 => sm _ _ (zhit_at 2 rfl ⟨by omega, by omega⟩))]
    exact zaM_t jq (fun t t0 t1 => sm _ _ (zhit_at 3 rfl ⟨t0, t1⟩))
  refine m_findLike (d := d) hG KM (nq := nq) (by rw [m235 0 (by decide) (by decide)]; exact eq) (fun X hX h58 h59 => ?_)
  have hNX : zfr plW N X := zfr_trans (plW_c hf) (zfr_sub hX (fun t ht => by
    rcases List.mem_append.mp ht with y | y
    · exact List.mem_append_left _ y
    · refine List.mem_append_right _ ?_
      have : ∀ t ∈ ([(258, 0, 1000000), (259, 0, 1000000)] : List (Int × Int × Int)), t ∈ plR := by decide
      exact this t y))
  have sx := zfr_sm (S := [(235, 0, 156), (248, 0, 48)]) hNX (by decide)
  refine h X hNX ⟨⟨by rw [sx _ _ (zhit_at 0 rfl ⟨by decide, by decide⟩)]; exact ep, by rw [sx _ _ (zhit_at 0 rfl ⟨by decide, by decide⟩)]; exact eq⟩, by omega, fun q hq => ?_, fun p hp q hq => ?_⟩
  · have l1 := h59 q hq
    have l2 := (jS.2 q (by omega) (by rw [e13]; omega)).2
    have l3 : pl_lk M q (N 30 q) := by
      refine ⟨l2.1, ?_, fun j j0 j1 => ?_⟩
      · have a := l2.1
        rw [fq _ a.1 (by omega), fq q (by omega) (by omega)]; exact l2.2.1
      · have a := l2.1
        rw [fq j j0 (by omega), fq q (by omega) (by omega)]; exact l2.2.2 j j0 j1
    have e := pl_lk_u l1 l3
    have a := l2.1
    unfold pl_L
    rw [e]
    exact ⟨by omega, by omega⟩
  · have ez : zmlac X p q = zmlac N p q := by
      unfold zmlac
      rw [sx 248 _ (zhit_at 1 rfl ⟨by omega, by omega⟩), sx 248 _ (zhit_at 1 rfl ⟨by omega, by omega⟩), sx 248 _ (zhit_at 1 rfl ⟨by omega, by omega⟩), sx 248 _ (zhit_at 1 rfl ⟨by omega, by omega⟩), sx 235 _ (zhit_at 0 rfl ⟨by omega, by omega⟩), sx 235 _ (zhit_at 0 rfl ⟨by omega, by omega⟩), sx 235 _ (zhit_at 0 rfl ⟨by omega, by omega⟩), sx 235 _ (zhit_at 0 rfl ⟨by omega, by omega⟩)]
    rw [h58 q hq, ez, fa q (by omega) (by omega), m235 3 (by decide) (by decide)]
    unfold pl_C
    rw [Bool.and_eq_true, decide_eq_true_iff, decide_eq_true_iff]
    by_cases c : zaM N (N 3) q = N 235 3
    · rw [if_pos c]; exact ⟨fun z => ⟨by decide, z.1⟩, fun z => ⟨z.2, c⟩⟩
    · rw [if_neg c]; exact ⟨fun z => absurd z.2 c, fun z => absurd rfl z.1⟩
theorem J_plan {N F : zM} (hJ : zJ N) (v10 : N 2 10 = M 2 10) (hf : zfr plW N F) : zJn M F := zJn_tr v10 (J_pl hJ hf).1 (hf 2 10 (by unfold zhw zhit plW zwyF; decide))
theorem plR_1 {N X : zM} (h : zfr plF N X) : zfr plR N X := fun a i hn => h a i (fun z => hn (by
  rcases z with z | z | ⟨t, ht, z1, z2, z3⟩
  · exact Or.inl z
  · exact Or.inr (Or.inl z)
  · have tb : ∀ t ∈ plF, ∃ s ∈ plR, s.1 = t.1 ∧ s.2.1 ≤ t.2.1 ∧ t.2.2 ≤ s.2.2 := by decide
    obtain ⟨s, s1, s2, s3, s4⟩ := tb t ht
    exact Or.inr (Or.inr ⟨s, s1, by rw [s2]; exact z1, by omega, by omega⟩)))
theorem pr_order (hG : zP G) (hJ : zJ M) {x1 : Int} : zPr G d mX11_order mX12_order [(2, 1), (0, x1)] [(2, 234), (0, x1), (9, 0)] M := by
  have n2 := hJ.1.2.2.1.1
  have u := (zj_j11 hJ).1
  refine bX11_order_0 hG ?_
  rw [u]
  refine ⟨by omega, fun q => ?_, fun q => bX12_order_0 hG ⟨by omega, fun z => absurd z q, fun _ => ⟨rfl, zJ_rf hJ⟩⟩⟩
  refine s_stockJ (d := d + 189) hG hJ (fun N JN hf e13 hW => bX11_order_24 hG ?_)
  have CN := zCk_0 hJ JN hf e13 hW
  have v10 : N 2 10 = M 2 10 := (zfr_sm (S := [(2, 10, 11)]) hf (by decide)) 2 10 (zhit_at 0 rfl ⟨by decide, by decide⟩)
  have a2 : N 235 2 = M 235 2 := (zfr_sm (S := [(235, 0, 156)]) hf (by decide)) 235 2 (zhit_at 0 rfl ⟨by decide, by decide⟩)
  have n12 : 0 ≤ N 235 0 ∧ N 235 0 ≤ 12 := JN.1.1
  obtain ⟨np, hnp⟩ := Int.eq_ofNat_of_zero_le (show 0 ≤ N 235 2 by omega)
  obtain ⟨nq, hnq⟩ := Int.eq_ofNat_of_zero_le n12.1
  have n6 : np ≤ 6 := by omega
  refine s_look (d := d + 396) hG CN hnq hnp (fun N1 hf1 hX1 => bX11_order_39 hG ?_)
  -- the model's side, once the class has said its answer
  have mo : ∀ (N2 : zM) (ans : zV), zfr plR N N2 → (∀ (F : zM) (b : Int → Int), (0 ≤ (po_re (pl_C N) (pl_L N) nq np (2 ^ np - 1)).1 → po_a b (po_f (po_re (pl_C N) (pl_L N) nq np (2 ^ np - 1)).2)) → F 261 = b → F 235 2 = (np : Int) → Y G (d + 400) mX12_order 37 [(2, 234), (0, x1), (9, 0)] [(0, (po_re (pl_C N) (pl_L N) nq np (2 ^ np - 1)).1)] F (fun r2 M2 => r2 = ans ∧ M2 = F)) → Y G (d + 400) mX12_order 0 [(2, 234), (0, x1), (9, 0)] [] N2 (fun r2 M2 => r2 = ans ∧ zJn M M2) := fun N2 ans hf2 hk => by
    have e2 : N2 235 2 = np := by rw [hf2 235 2 (by unfold zhw zhit plR; decide)]; exact hnp
    refine bX12_order_0 hG ?_
    rw [e2]
    refine ⟨by omega, fun _ => m_plan (d := d + 393) hG CN hf2 hnq hnp (fun X hX hXc => bX12_order_23 hG ?_), fun z => absurd (by omega) z⟩
    rw [hXc.1.1, (pl_all_tab np (by omega)).1]
    refine ⟨by have := pl_all_l n6; omega, m_mostOf (d := d + 394) hG hXc (pl_all_l n6).1 (fun g b hb => ?_)⟩
    refine Z.post (hk _ b hb zrow_row (by rw [zrow_off (by decide), zrow_off (by decide)]; exact hXc.1.1)) (fun v M' _ _ _ hq => ⟨hq.1, ?_⟩)
    rw [hq.2]
    exact J_plan JN v10 (zfr_row (zfr_row hX 24 rfl) 25 rfl)
  refine ⟨fun c => ?_, fun c => ?_⟩
  · refine Z.deep (d := 0 + np + 2) (by omega) (s_findOrder hG hX1 (fun N2 l hl f2 hM => bX11_order_59 hG ⟨fun z => absurd z (by decide), fun _ => ⟨by omega, ?_⟩⟩) (fun N2 hl f2 => bX11_order_59 hG ⟨fun _ => ?_, fun z => absurd rfl z⟩))
    · have o := po_ord (C := pl_C N) (L := pl_L N) (nq := nq) (np := np) n6
      have ho1 := o.1.mpr (by rw [hl]; exact fun z => by cases z)
      refine mo N2 _ (zfr_trans (plR_1 hf1) (zfr_sub f2 (by decide))) (fun F b hb eb ef => bX12_order_37 hG ?_)
      rw [ef]
      refine ⟨fun _ => ⟨fun z => absurd ho1 z, fun _ => ⟨by omega, ?_, rfl⟩⟩, fun z => absurd z c⟩
      have hb' := hb (by rw [ho1]; omega) x1 (by omega) (by omega)
      rw [o.2 l hl] at hb'
      rw [eb, hb']
      have hl' : l.length = np := by
        rw [pl_of_eq] at hl
        exact (pl_pm_m.mp (List.mem_of_find?_eq_some hl)).1
      have h3 := hM x1.toNat (by omega)
      rw [show ((x1.toNat : Nat) : Int) = x1 by omega] at h3
      rw [h3]
      show (0, ((((l ++ (List.range 6).drop np).getD x1.toNat 0 : Nat)) : Int)) = _
      rw [List.getD_eq_getElem?_getD, List.getElem?_append_left (by omega), ← List.getD_eq_getElem?_getD]
    · have o := po_ord (C := pl_C N) (L := pl_L N) (nq := nq) (np := np) n6
      refine mo N2 _ (zfr_trans (plR_1 hf1) (zfr_sub f2 (by decide))) (fun F b hb eb ef => bX12_order_37 hG ?_)
      rw [ef]
      exact ⟨fun _ => ⟨fun _ => ⟨rfl, rfl⟩, fun z => absurd hl (o.1.mp z)⟩, fun z => absurd z c⟩
  · refine Z.deep (d := 0 + np + 3) (by omega) (s_mostWhoCan hG hX1 (fun N2 f2 => bX11_order_51 hG ?_))
    refine mo N2 _ (zfr_trans (plR_1 hf1) (zfr_sub f2 (by decide))) (fun F b hb eb ef => bX12_order_37 hG ⟨fun z => absurd c z, fun _ => ⟨?_, rfl⟩⟩)
    rw [po_max n6]
theorem pr_shut (hG : zP G) (hJ : zJ M) : zPr G d mX11_shut mX12_shut [(2, 1)] [(2, 234), (9, 0), (9, 0), (9, 0)] M := by
  have n2 := hJ.1.2.2.1.1
  refine bX11_shut_0 hG (s_stockJ (d := d + 189) hG hJ (fun N JN hf e13 hW => bX11_shut_4 hG ?_))
  have CN := zCk_0 hJ JN hf e13 hW
  have v10 : N 2 10 = M 2 10 := (zfr_sm (S := [(2, 10, 11)]) hf (by decide)) 2 10 (zhit_at 0 rfl ⟨by decide, by decide⟩)
  have a2 : N 235 2 = M 235 2 := (zfr_sm (S := [(235, 0, 156)]) hf (by decide)) 235 2 (zhit_at 0 rfl ⟨by decide, by decide⟩)
  have n12 : 0 ≤ N 235 0 ∧ N 235 0 ≤ 12 := JN.1.1
  obtain ⟨np, hnp⟩ := Int.eq_ofNat_of_zero_le (show 0 ≤ N 235 2 by omega)
  obtain ⟨nq, hnq⟩ := Int.eq_ofNat_of_zero_le n12.1
  have n6 : np ≤ 6 := by omega
  have h64 := zpw6 n6
  have h1 := Nat.two_pow_pos np
  obtain ⟨ta, tb⟩ := pl_all_tab np (by omega)
  refine s_look (d := d + 396) hG CN hnq hnp (fun N1 hf1 hX1 => bX11_shut_19 hG ?_)
  refine Z.deep (d := 0 + np + 3) (by omega) (s_fewestToShut hG hX1 (fun N2 f2 => bX11_shut_26 hG ?_))
  have hf2 : zfr plR N N2 := zfr_trans (plR_1 hf1) (zfr_sub f2 (by decide))
  refine bX12_shut_0 hG (m_plan (d := d + 393) hG CN hf2 hnq hnp (fun X hX hXc => bX12_shut_4 hG ?_))
  rw [hXc.1.1, ta]
  refine ⟨by omega, ?_⟩
  have lp : ∀ (r k : Nat) (F : zM), k + r = 2 ^ np - 1 → zfr plW N F → ml_Cx F (pl_C N) (pl_L N) nq np → Y G (d + 399 + 1) mX12_shut 19 [(2, 234), (0, ((2 ^ np - 1 : Nat) : Int)), (0, (pl_sh (fun s => pl_ex (pl_C N) (pl_L N) nq np np 0 0 (2 ^ np - 1 - s)) (2 ^ np - 1) k : Int)), (0, (k : Int))] [] F (fun r2 M2 => r2 = (0, (pl_sh (fun s => pl_ex (pl_C N) (pl_L N) nq np np 0 0 (2 ^ np - 1 - s)) (2 ^ np - 1) (2 ^ np - 1) : Int)) ∧ zJn M M2) := fun r => by
    induction r with
    | zero =>
      intro k F hk hF hFc
      have : k = 2 ^ np - 1 := by omega
      subst this
      exact bX12_shut_19 hG ⟨fun _ => ⟨rfl, J_plan JN v10 hF⟩, fun c => absurd c (by omega)⟩
    | succ r ih =>
      intro k F hk hF hFc
      have nx := ih (k + 1)
      have e : pl_sh (fun s => pl_ex (pl_C N) (pl_L N) nq np np 0 0 (2 ^ np - 1 - s)) (2 ^ np - 1) (k + 1) = if pl_ex (pl_C N) (pl_L N) nq np np 0 0 (2 ^ np - 1 - k) = true ∧ zpc k < zpc (pl_sh (fun s => pl_ex (pl_C N) (pl_L N) nq np np 0 0 (2 ^ np - 1 - s)) (2 ^ np - 1) k) then k else pl_sh (fun s => pl_ex (pl_C N) (pl_L N) nq np np 0 0 (2 ^ np - 1 - s)) (2 ^ np - 1) k := rfl
      rw [e] at nx
      have hs := pl_sh_s (f := fun s => pl_ex (pl_C N) (pl_L N) nq np np 0 0 (2 ^ np - 1 - s)) (all := 2 ^ np - 1) k (by omega)
      generalize hfin : (pl_sh (fun s => pl_ex (pl_C N) (pl_L N) nq np np 0 0 (2 ^ np - 1 - s)) (2 ^ np - 1) (2 ^ np - 1) : Int) = fin at *
      generalize pl_sh (fun s => pl_ex (pl_C N) (pl_L N) nq np np 0 0 (2 ^ np - 1 - s)) (2 ^ np - 1) k = b at *
      refine bX12_shut_19 hG ⟨fun c => absurd c (by omega), fun _ => s_mbits hG (by omega) (bX12_shut_28 hG (s_mbits hG (by omega) (bX12_shut_32 hG ?_)))⟩
      rw [zan_n (by omega), tb k (by omega)]
      refine ⟨fun c => ⟨by omega, ?_⟩, fun c => m_mostOf (d := d + 394) hG hFc (by omega) (fun g b' hb' => bX12_shut_44 hG ?_)⟩
      · rw [if_neg (fun z => by have := z.2; omega)] at nx
        exact nx F (by omega) hF hFc
      · rw [zan_n (by omega), tb k (by omega)]
        have hF' : zfr plW N (zrow (zrow F 260 g) 261 b') := zfr_row (zfr_row hF 24 rfl) 25 rfl
        have sh := po_shut (C := pl_C N) (L := pl_L N) (nq := nq) (np := np) (S := 2 ^ np - 1 - k) n6 (by omega)
        refine s_mbits hG (by omega) (bX12_shut_52 hG ⟨fun z => ⟨by omega, ?_⟩, fun z => ⟨by omega, ?_⟩⟩)
        · rw [if_neg (fun w => z (sh.mpr w.1))] at nx
          exact nx _ (by omega) hF' (ml_row hFc g b')
        · rw [if_pos ⟨sh.mp z, by omega⟩] at nx
          exact nx _ (by omega) hF' (ml_row hFc g b')
  exact lp (2 ^ np - 1) 0 X (by omega) hX hXc
end PL6
