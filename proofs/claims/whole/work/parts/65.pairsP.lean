section PP
variable {G : zG} {d : Nat} {M : zM} {Q : zV → zM → Prop}
def zwyF : List (Int × Int × Int) := zscr ++ zaF
theorem J_wy {M M2 : zM} (hJ : zJ M) (hf : zfr zwyF M M2) : zJn M M2 := by
  exact ⟨⟨zsA_c (zfr_sm hf (by decide)) hJ.1, zsI_c (zfr_sm hf (by decide)) hJ.2.1, zJ1_c (zfr_sm hf (by decide)) hJ.2.2.1, zJ2_c (zfr_sm hf (by decide)) hJ.1.2.1.1.2 hJ.2.2.2.1, zJ3_c (zfr_sm hf (by decide)) hJ.2.2.2.2.1, zJ4_c (zfr_sm hf (by decide)) hJ.1.2.1.1.2 hJ.2.2.2.2.2.1, zJ10_c (zfr_sm hf (by decide)) hJ.2.2.2.2.2.2.1, zJ5_c (zfr_sm hf (by decide)) hJ.2.2.2.2.2.2.2.1, zJ6_c (zfr_sm hf (by decide)) hJ.2.2.2.2.2.2.2.2.1, zJ7_c (zfr_sm hf (by decide)) hJ.2.2.2.2.2.2.2.2.2.1, zJ8_c (zfr_sm hf (by decide)) hJ.1.1.2 hJ.2.2.2.2.2.2.2.2.2.2.1, zJ9_c (zfr_sm hf (by decide)) hJ.2.2.2.2.2.2.2.2.2.2.2.1, zJ11_c (zfr_sm hf (by decide)) hJ.1.2.2.1.1.2 hJ.2.2.2.2.2.2.2.2.2.2.2.2.1, zJ12_c (zfr_sm hf (by decide)) hJ.2.2.2.2.2.2.2.2.2.2.2.2.2.1, zJ13_c (zfr_sm hf (by decide)) (zA5 hJ.1) hJ.2.2.2.2.2.2.2.2.2.2.2.2.2.2.1, zJ14_c (zfr_sm hf (by decide)) (zA7 hJ.1) hJ.2.2.2.2.2.2.2.2.2.2.2.2.2.2.2.1, zJ15_c (zfr_sm hf (by decide)) (zA8 hJ.1) hJ.2.2.2.2.2.2.2.2.2.2.2.2.2.2.2.2.1, zJ18_c (zfr_sm hf (by decide)) ⟨zA5 hJ.2.1, zA7 hJ.2.1, zA8 hJ.2.1⟩ hJ.2.2.2.2.2.2.2.2.2.2.2.2.2.2.2.2.2.1, zJ19_c (zfr_sm hf (by decide)) ⟨hJ.2.1.2.1.1.2, hJ.2.1.2.2.1.1.2⟩ hJ.2.2.2.2.2.2.2.2.2.2.2.2.2.2.2.2.2.2.1, zJ16_c (zfr_sm hf (by decide)) hJ.1.1.2 hJ.2.2.2.2.2.2.2.2.2.2.2.2.2.2.2.2.2.2.2.1, zJ17_c (zfr_sm hf (by decide)) hJ.2.1.1.2 hJ.2.2.2.2.2.2.2.2.2.2.2.2.2.2.2.2.2.2.2.2.1, zJF_c (zfr_sm hf (by decide)) hJ.1 hJ.2.2.2.2.2.2.2.2.2.2.2.2.2.2.2.2.2.2.2.1 hJ.2.2.2.2.2.2.2.2.2.2.2.2.2.2.2.2.2.2.2.2.2.1, zJS_c (zfr_sm hf (by decide)) hJ.1.1.2 hJ.2.2.2.2.2.2.2.2.2.2.2.2.2.2.2.2.2.2.2.1 hJ.2.2.2.2.2.2.2.2.2.2.2.2.2.2.2.2.2.2.2.2.2.2.1, (by rw [hf 2 10 (by unfold zhw zhit; decide)]; exact hJ.2.2.2.2.2.2.2.2.2.2.2.2.2.2.2.2.2.2.2.2.2.2.2.1), zJC_c (zfr_sm hf (by decide)) hJ.2.2.2.2.2.2.2.2.2.2.2.2.2.2.2.2.2.2.2.2.2.2.2.2⟩, by rw [hf 2 10 (by unfold zhw zhit; decide)]; omega⟩


theorem zwy1 {N : zM} (h : zfr zscr M N) : zfr zwyF M N := zfr_sub h (fun t ht => List.mem_append_left _ ht)
theorem zwy2 {N : zM} (h : zfr zaF M N) : zfr zwyF M N := zfr_sub h (fun t ht => List.mem_append_right _ ht)
def zhb (s : Int → Int) (p : Int) : Nat → Bool
  | 0 => false
  | k + 1 => zhb s p k || decide (s k = p)
theorem zhb_t {s : Int → Int} {p : Int} : ∀ (n : Nat) (i : Int), 0 ≤ i → i < (n : Int) → s i = p → zhb s p n = true
  | 0, i, i0, i1, _ => by omega
  | n + 1, i, i0, i1, e => by
    show (zhb s p n || decide (s n = p)) = true
    by_cases c : i = n
    · subst c; rw [decide_eq_true e, Bool.or_true]
    · rw [zhb_t n i i0 (by omega) e, Bool.true_or]
theorem zhb_f {s : Int → Int} {p : Int} : ∀ n : Nat, (∀ i, 0 ≤ i → i < (n : Int) → s i ≠ p) → zhb s p n = false
  | 0, _ => rfl
  | n + 1, h => by
    show (zhb s p n || decide (s n = p)) = false
    rw [zhb_f n (fun i i0 i1 => h i i0 (by omega)), decide_eq_false (h n (by omega) (by omega))]; rfl
def zha (P : zM) (p : Int) : Bool := zhb (fun i => P 235 (104 + 2 * i)) p (P 235 5).toNat
noncomputable def zwhy (P : zM) (p q : Int) : Int := if zha P p = true then 1 else if zmlac P p q ≠ 0 then 2 else if zaM P (P 3) q ≠ P 235 3 then 3 else if zbar P q = -1 then 0 else 4
theorem s_chasAsked (hG : zP G) {P : zM} {p : Int} (n5 : 0 ≤ P 235 5 ∧ P 235 5 ≤ 6) (h9 : M 157 9 = P 235 5) (h163 : ∀ i, 0 ≤ i → i < P 235 5 → M 163 i = P 235 (104 + 2 * i)) (h : Q (0, if zha P p = true then 1 else 0) M) : Y G d mX6_hasAsked 0 [(2, 157), (0, p), (9, 0)] [] M Q := by
  obtain ⟨n, hn⟩ := Int.eq_ofNat_of_zero_le n5.1
  have lp : ∀ (r i : Nat), i + r = n → (∀ j, 0 ≤ j → j < (i : Int) → P 235 (104 + 2 * j) ≠ p) → Y G d mX6_hasAsked 2 [(2, 157), (0, p), (0, (i : Int))] [] M Q := fun r => by
    induction r with
    | zero =>
      intro i hi hA
      refine bX6_hasAsked_2 hG ⟨fun _ => ?_, fun c => absurd c (by omega)⟩
      have : zha P p = false := by unfold zha; rw [hn]; exact zhb_f _ (fun j j0 j1 => hA j j0 (by omega))
      rw [this] at h; exact h
    | succ r ih =>
      intro i hi hA
      refine bX6_hasAsked_2 hG ?_
      rw [h9, h163 i (by omega) (by omega)]
      refine ⟨fun c => absurd c (by omega), fun _ => ⟨by omega, fun c => ⟨by omega, ih (i + 1) (by omega) (fun j j0 j1 => ?_)⟩, fun c => ?_⟩⟩
      · by_cases e : j = i
        · rw [e]; exact c
        · exact hA j j0 (by omega)
      · have : zha P p = true := by unfold zha; rw [hn]; exact zhb_t n i (by omega) (by omega) c
        rw [this, if_pos rfl] at h; exact h
  exact bX6_hasAsked_0 hG (lp n 0 (by omega) (fun j j0 j1 => absurd j1 (by omega)))
theorem s_mhasAsked (hG : zP G) {p : Int} (n5 : 0 ≤ M 235 5 ∧ M 235 5 ≤ 6) (h : Q (0, if zha M p = true then 1 else 0) M) : Y G d mX12_hasAsked 0 [(2, 234), (0, p), (9, 0)] [] M Q := by
  obtain ⟨n, hn⟩ := Int.eq_ofNat_of_zero_le n5.1
  have lp : ∀ (r i : Nat), i + r = n → (∀ j, 0 ≤ j → j < (i : Int) → M 235 (104 + 2 * j) ≠ p) → Y G d mX12_hasAsked 2 [(2, 234), (0, p), (0, (i : Int))] [] M Q := fun r => by
    induction r with
    | zero =>
      intro i hi hA
      refine bX12_hasAsked_2 hG ⟨fun _ => ?_, fun c => absurd c (by omega)⟩
      have : zha M p = false := by unfold zha; rw [hn]; exact zhb_f _ (fun j j0 j1 => hA j j0 (by omega))
      rw [this] at h; exact h
    | succ r ih =>
      intro i hi hA
      refine bX12_hasAsked_2 hG ⟨fun c => absurd c (by omega), fun _ => ⟨by omega, by omega, by omega, fun c => ⟨by omega, ih (i + 1) (by omega) (fun j j0 j1 => ?_)⟩, fun c => ?_⟩⟩
      · by_cases e : j = i
        · rw [e]; exact c
        · exact hA j j0 (by omega)
      · have : zha M p = true := by unfold zha; rw [hn]; exact zhb_t n i (by omega) (by omega) c
        rw [this, if_pos rfl] at h; exact h
  exact bX12_hasAsked_0 hG (lp n 0 (by omega) (fun j j0 j1 => absurd j1 (by omega)))
/-- what hinders, in the class: stock has been taken -/
theorem s_hindrance (hG : zP G) {P : zM} {p q : Int} (hA : zVA (P 235)) (h9 : M 157 9 = P 235 5) (h163 : ∀ i, 0 ≤ i → i < P 235 5 → M 163 i = P 235 (104 + 2 * i) ∧ M 164 i = P 235 (105 + 2 * i)) (hl : zlac M p q = zmlac P p q) (h27 : M 27 q = zaM P (P 3) q) (h6 : M 157 6 = P 235 3) (hS : zJS M P) (e13 : M 19 13 = P 235 0) (hp : 0 ≤ p ∧ p < 6) (hq : 0 ≤ q ∧ q < P 235 0) (h : Q (0, zwhy P p q) M) : Y G (d + 2) mX6_hindrance 0 [(2, 157), (0, p), (0, q), (2, 19)] [] M Q := by
  obtain ⟨n5, sq⟩ := zV5_s hA
  have n12 : P 235 0 ≤ 12 := hA.1.2
  unfold zwhy at h
  refine bX6_hindrance_0 hG (s_chasAsked hG n5 h9 (fun i i0 i1 => (h163 i i0 i1).1) (bX6_hindrance_5 hG ?_))
  by_cases c1 : zha P p = true
  · rw [if_pos c1] at h ⊢
    exact ⟨fun z => absurd z (by decide), fun _ => h⟩
  · rw [if_neg c1] at h ⊢
    refine ⟨fun _ => s_lacking hG hp ⟨hq.1, by omega⟩ (bX6_hindrance_17 hG ?_), fun z => absurd rfl z⟩
    rw [hl, h27, h6]
    refine ⟨fun c2 => ⟨by omega, fun c3 => ?_, fun c3 => ?_⟩, fun c2 => ?_⟩
    · rw [if_neg (fun z => z c2), if_neg (fun z => z c3)] at h
      refine s_cbarring hG hA h9 (fun i i0 i1 => (h163 i i0 i1).2) hS e13 hq (bX6_hindrance_43 hG ⟨fun z => ?_, fun z => ?_⟩)
      · rw [if_pos z] at h; exact h
      · rw [if_neg z] at h; exact h
    · rw [if_neg (fun z => z c2), if_pos c3] at h; exact h
    · rw [if_pos c2] at h; exact h
theorem zwhy_r (P : zM) (p q : Int) : 0 ≤ zwhy P p q ∧ zwhy P p q ≤ 4 := by
  unfold zwhy
  (repeat' split) <;> omega
/-- what hinders, in the model -/
theorem s_mwhy (hG : zP G) (hJ : zJ M) {p q : Int} (hp : 0 ≤ p ∧ p < M 235 2) (hq : 0 ≤ q ∧ q < M 235 0) (h : ∀ N, zfr zwyF M N → zJ N → Q (0, zwhy M p q) N) : Y G (d + 8) mX12_why 0 [(2, 234), (0, p), (0, q)] [] M Q := by
  have n12 : 0 ≤ M 235 0 ∧ M 235 0 ≤ 12 := hJ.1.1
  have n2 := hJ.1.2.2.1.1
  obtain ⟨n5, sq⟩ := zV5_s hJ.1
  have h' : ∀ (r : Int), r = zwhy M p q → ∀ N, zfr zwyF M N → zJ N → Q (0, r) N := fun r hr N a b => by rw [hr]; exact h N a b
  refine bX12_why_0 hG ⟨by omega, fun _ => ⟨by omega, fun _ => s_mhasAsked hG n5 (bX12_why_23 hG ?_), fun z => absurd hq z⟩, fun z => absurd hp z⟩
  unfold zwhy at h'
  by_cases c1 : zha M p = true
  · rw [if_pos c1] at h' ⊢
    exact ⟨fun z => absurd z (by decide), fun _ => h' 1 rfl M zfr_rfl hJ⟩
  · rw [if_neg c1] at h' ⊢
    refine ⟨fun _ => bX12_can_0 hG (s_mlacks hG (by omega) (fun _ => bX12_can_6 hG ⟨fun c2 => bX12_why_34 hG ⟨fun z => absurd rfl z, fun _ => ?_⟩, fun c2 => bX12_why_34 hG ⟨fun _ => ?_, fun z => absurd z (by decide)⟩⟩) (fun z => absurd ⟨hp, hq⟩ z)), fun z => absurd rfl z⟩
    · rw [if_pos c2] at h'
      exact h' 2 rfl M zfr_rfl hJ
    · rw [if_neg (fun z => z c2)] at h'
      refine s_mworld hG hJ (fun X hX JX hWX hEX => bX12_why_43 hG ?_)
      have sx := zfr_sm (S := [(235, 0, 156), (246, 0, 12), (247, 0, 2880), (3, 0, 4)]) hX (by decide)
      have x235 : ∀ i, 0 ≤ i → i < 156 → X 235 i = M 235 i := fun i i0 i1 => sx _ _ (zhit_at 0 rfl ⟨i0, i1⟩)
      have jq := (hJ.2.2.2.2.2.2.2.2.2.2.2.2.2.2.2.2.2.2.2.1) q hq.1 hq.2
      have xa : zaM X (X 3) q = zaM M (M 3) q := by
        rw [zaM_e (M := M) hJ.1 (by have := jq.2.1; omega) (x235 1 (by decide) (by decide)) (fun i i0 i1 => x235 i (by omega) (by omega)) (sx _ _ (zhit_at 1 rfl ⟨hq.1, by omega⟩)) (fun i i0 i1 => sx _ _ (zhit_at 2 rfl ⟨by omega, by omega⟩))]
        exact zaM_t jq (fun t t0 t1 => sx _ _ (zhit_at 3 rfl ⟨t0, t1⟩))
      refine s_mnow (d := d + 5) hG JX hWX hEX (by rw [x235 0 (by decide) (by decide)]; exact hq) (fun V => bX12_why_48 hG ?_)
      have hV : zfr zscr X (zrow X 250 V) := zfr_row zfr_rfl 7 rfl
      have JV := (J_sc JX hV).1
      have hMV := zfr_trans (zwy1 hX) (zwy1 hV)
      have v235 : zrow X 250 V 235 = X 235 := zrow_off (by decide)
      rw [xa, v235, x235 3 (by decide) (by decide)]
      refine ⟨fun c3 => ?_, fun c3 => ?_⟩
      · rw [zlcmp_eq] at c3
        rw [if_neg (fun z => z c3)] at h'
        refine s_mbarring hG JV (by rw [v235, x235 0 (by decide) (by decide)]; exact hq) (fun N hN JN => ?_)
        have eb : zbar (zrow X 250 V) q = zbar M q := zbar_e hJ (zfr_sm hMV (by decide)) hq
        have hMN := zfr_trans hMV (zwy2 hN)
        have bb : -1 ≤ zbar M q := by
          obtain ⟨m, hm⟩ := Int.eq_ofNat_of_zero_le n5.1
          unfold zbar
          exact (zbr_b _ (fun i i0 i1 => by have := sq i i0 (by omega); exact ⟨this.1, by omega⟩)).1
        rw [eb]
        refine bX12_why_66 hG ⟨fun z => ?_, fun z => ?_⟩
        · rw [if_pos (by omega)] at h'; exact h' 0 rfl N hMN JN
        · rw [if_neg (by omega)] at h'; exact h' 4 rfl N hMN JN
      · rw [zlcmp_eq] at c3
        rw [if_pos c3] at h'
        exact h' 3 rfl _ hMV JV
theorem pr_why (hG : zP G) (hJ : zJ M) {x1 x2 : Int} : zPr G d mX11_why mX12_why [(2, 1), (0, x1), (0, x2)] [(2, 234), (0, x1), (0, x2)] M := by
  have o := (hJ.2.2.2.2.2.2.2.2.2.2.1).1
  have u := (hJ.2.2.2.2.2.2.2.2.2.2.2.2.1).1
  have n12 : 0 ≤ M 235 0 ∧ M 235 0 ≤ 12 := hJ.1.1
  have n2 := hJ.1.2.2.1.1
  have no : ¬ ((0 ≤ x1 ∧ x1 < M 235 2) ∧ 0 ≤ x2 ∧ x2 < M 235 0) → Y G (d + 400) mX12_why 0 [(2, 234), (0, x1), (0, x2)] [] M (fun r2 M2 => r2 = (0, -1) ∧ zJn M M2) := fun q =>
    bX12_why_0 hG ⟨by omega, fun a => ⟨by omega, fun b => absurd ⟨a, b⟩ q, fun _ => ⟨rfl, zJ_rf hJ⟩⟩, fun _ => ⟨rfl, zJ_rf hJ⟩⟩
  refine bX11_why_0 hG ?_
  rw [u, o]
  refine ⟨by omega, fun a => ⟨by omega, fun b => ?_, fun b => no (fun q => b q.2)⟩, fun a => no (fun q => a q.1)⟩
  refine s_stockJ (d := d + 189) hG hJ (fun N JN hf e13 hW => bX11_why_22 hG ?_)
  have sm := zfr_sm (S := [(235, 0, 156), (246, 0, 12), (247, 0, 2880), (3, 0, 4), (2, 10, 11)]) hf (by decide)
  have a235 : ∀ i, 0 ≤ i → i < 156 → N 235 i = M 235 i := fun i i0 i1 => sm _ _ (zhit_at 0 rfl ⟨i0, i1⟩)
  have v10 : N 2 10 = M 2 10 := sm _ _ (zhit_at 4 rfl ⟨by decide, by decide⟩)
  have jq := (hJ.2.2.2.2.2.2.2.2.2.2.2.2.2.2.2.2.2.2.2.1) x2 b.1 b.2
  have xa : zaM N (N 3) x2 = zaM M (M 3) x2 := by
    rw [zaM_e (M := M) hJ.1 (by have := jq.2.1; omega) (a235 1 (by decide) (by decide)) (fun i i0 i1 => a235 i (by omega) (by omega)) (sm _ _ (zhit_at 1 rfl ⟨b.1, by omega⟩)) (fun i i0 i1 => sm _ _ (zhit_at 2 rfl ⟨by omega, by omega⟩))]
    exact zaM_t jq (fun t t0 t1 => sm _ _ (zhit_at 3 rfl ⟨t0, t1⟩))
  have aN : 0 ≤ x1 ∧ x1 < N 235 2 := by rw [a235 2 (by decide) (by decide)]; exact a
  have bN : 0 ≤ x2 ∧ x2 < N 235 0 := by rw [a235 0 (by decide) (by decide)]; exact b
  have j13 := JN.2.2.2.2.2.2.2.2.2.2.2.2.2.2.1
  refine s_hindrance (d := d + 397) (P := N) hG JN.1 j13.1 j13.2 (zlac_eq JN aN bN).symm (by rw [hW x2 b.1 b.2, xa]) (JN.2.2.2.2.2.2.2.2.2.2.2.2.2.1) (JN.2.2.2.2.2.2.2.2.2.2.2.2.2.2.2.2.2.2.2.2.2.2.1) (by rw [e13, a235 0 (by decide) (by decide)]) (by omega) bN (bX11_why_35 hG ?_)
  refine s_mwhy (d := d + 392) hG JN aN bN (fun N2 hN2 J2 => ⟨rfl, zJn_tr v10 J2 (hN2 2 10 (by unfold zhw zhit zwyF; decide))⟩)

end PP
