section PS1
/-! steps and nodes while a question is read -/
variable {st v : Int → Int}
abbrev ps_ok (st v : Int → Int) (L : Nat) : Prop := ∀ k : Nat, k < L → 0 ≤ zpn (st k) (v k) ∧ 0 ≤ zbs st v k
theorem ps_st {L : Nat} : zsp st v (L + 1) = (zbs st v L + 1, zup (zsp st v L).2 (zbs st v L) L) := rfl
theorem ps_mo : ∀ (L : Nat), ps_ok st v L → ∀ a b, 0 ≤ a → a < b → b < (zsp st v L).1 → (zsp st v L).2 a < (zsp st v L).2 b
  | 0, _, a, b, h0, h1, h2 => by
    have : b < 0 := h2
    omega
  | L + 1, h, a, b, h0, h1, h2 => by
    have hL : ps_ok st v L := fun k hk => h k (by omega)
    have q := h L (by omega)
    have zi := (zsp_in L hL).2
    rw [ps_st] at h2 ⊢
    have h2' : b < zbs st v L + 1 := h2
    show zup (zsp st v L).2 (zbs st v L) L a < zup (zsp st v L).2 (zbs st v L) L b
    have qb : zbs st v L = (zsp st v L).1 - zpn (st L) (v L) := rfl
    rw [zup_ne (show a ≠ zbs st v L by omega)]
    by_cases c : b = zbs st v L
    · rw [c, zup_at]
      exact (zi a h0 (by omega)).2
    · rw [zup_ne c]
      exact ps_mo L hL a b h0 h1 (by omega)
theorem ps_cd {L : Nat} (h : ps_ok st v L) {k : Nat} (hk : k < L) {j : Int} (hj : 0 ≤ j ∧ j < zpn (st k) (v k)) : 0 ≤ zcd st v k j ∧ zcd st v k j < k := by
  have q := (zsp_in k (fun i hi => h i (by omega))).2 (zbs st v k + j)
  have w := h k hk
  exact q (by omega) (by unfold zbs at *; omega)
/-- a part of a node doesn't wait any more -/
theorem ps_off : ∀ (L : Nat), ps_ok st v L → ∀ (k : Nat) (j a : Int), k < L → (0 ≤ j ∧ j < zpn (st k) (v k)) → 0 ≤ a → a < (zsp st v L).1 → (zsp st v L).2 a ≠ zcd st v k j
  | 0, _, k, j, a, hk, _, _, _ => absurd hk (by omega)
  | L + 1, h, k, j, a, hk, hj, a0, a1 => by
    have hL : ps_ok st v L := fun k hk => h k (by omega)
    have q := h L (by omega)
    have cd := ps_cd h hk hj
    rw [ps_st] at a1 ⊢
    have a1' : a < zbs st v L + 1 := a1
    have qb : zbs st v L = (zsp st v L).1 - zpn (st L) (v L) := rfl
    show zup (zsp st v L).2 (zbs st v L) L a ≠ zcd st v k j
    by_cases c : a = zbs st v L
    · rw [c, zup_at]; omega
    · rw [zup_ne c]
      by_cases e : k = L
      · have mo := ps_mo L hL a (zbs st v L + j) a0 (by omega) (by rw [e] at hj; omega)
        rw [e]
        show (zsp st v L).2 a ≠ (zsp st v L).2 (zbs st v L + j)
        omega
      · exact ps_off L hL k j a (by omega) hj a0 (by omega)
/-- what zQC says of one node -/
def ps_N (K V S C F N st v : Int → Int) (f : Int) (k : Nat) : Prop :=
    (0 ≤ st k ∧ st k ≤ 10) ∧ K (f + k) = st k ∧ C (f + k) = zpn (st k) (v k) ∧ (0 ≤ zpn (st k) (v k) ∧ 0 ≤ zbs st v k) ∧
    (st k = 0 → V (f + k) = v k ∧ 0 ≤ v k ∧ v k ≤ 99) ∧ (st k = 1 → V (f + k) = v k ∧ 0 ≤ v k ∧ v k ≤ 3) ∧ (st k = 10 → V (f + k) = v k ∧ 0 ≤ v k ∧ v k ≤ 5) ∧ (2 ≤ st k ∧ st k ≤ 9 → V (f + k) = 0) ∧
    (st k = 2 ∨ st k = 3 → 2 ≤ zpn (st k) (v k) ∧ zpn (st k) (v k) ≤ 16) ∧
    (1 ≤ zpn (st k) (v k) → F (f + k) = f + zcd st v k 0) ∧ (∀ j, 0 ≤ j → j < zpn (st k) (v k) - 1 → N (f + zcd st v k j) = f + zcd st v k (j + 1)) ∧
    (∀ j, 0 ≤ j → j < zpn (st k) (v k) → S (f + zcd st v k j) = if st k = 2 ∧ zsg (v k) j then -1 else 1) ∧ (st k = 2 → ¬ zsg (v k) 0)
theorem ps_QC {K V S C F N : Int → Int} {f : Int} {L : Nat} (h : ∀ k : Nat, k < L → ps_N K V S C F N st v f k) (h1 : (zsp st v L).1 = 1) : zQC K V S C F N st v f L :=
  ⟨fun k hk => h k (by omega), by rw [Int.toNat_natCast]; exact h1⟩
theorem ps_N_c {K V S C F N K' V' S' C' F' N' st' v' : Int → Int} {f : Int} {k : Nat} (h : ps_N K V S C F N st v f k) (eK : K' (f + k) = K (f + k)) (eV : V' (f + k) = V (f + k)) (eC : C' (f + k) = C (f + k)) (eF : F' (f + k) = F (f + k)) (eN : ∀ j, 0 ≤ j → j < zpn (st k) (v k) → N' (f + zcd st v k j) = N (f + zcd st v k j) ∧ S' (f + zcd st v k j) = S (f + zcd st v k j)) (e2 : ∀ i : Nat, i < k + 1 → st' i = st i ∧ v' i = v i) : ps_N K' V' S' C' F' N' st' v' f k := by
  obtain ⟨b1, b2⟩ := zcd_e e2
  obtain ⟨c1, c2⟩ := e2 k (by omega)
  obtain ⟨h1, h2, h3, h4, h5, h6, h7, h8, h9, h10, h11, h12, h13⟩ := h
  unfold ps_N
  rw [c1, c2, b1, eK, eV, eC, eF, b2 0]
  refine ⟨h1, h2, h3, h4, h5, h6, h7, h8, h9, h10, fun j j0 j1 => ?_, fun j j0 j1 => ?_, h13⟩
  · rw [b2 j, b2 (j + 1), (eN j j0 (by omega)).1]; exact h11 j j0 j1
  · rw [b2 j, (eN j j0 j1).2]; exact h12 j j0 j1
/-! the nodes' rows in the class's memory -/
def ps_R (M : zM) (o : Int) (st v : Int → Int) (f : Int) (L : Nat) : Prop := (0 ≤ f ∧ M o 8 = f + L) ∧ ∀ k : Nat, k < L → ps_N (M (o + 1)) (M (o + 2)) (M (o + 3)) (M (o + 4)) (M (o + 5)) (M (o + 7)) st v f k
theorem ps_R_ok {M : zM} {o f : Int} {L : Nat} (h : ps_R M o st v f L) : ps_ok st v L := fun k hk => (h.2 k hk).2.2.2.1
/-- nothing of the nodes has changed -/
theorem ps_R_c {M M' : zM} {o f : Int} {L : Nat} (h : ps_R M o st v f L) (h8 : M' o 8 = M o 8) (e : ∀ a x, 1 ≤ a → a ≤ 7 → 0 ≤ x → x < f + L → M' (o + a) x = M (o + a) x) : ps_R M' o st v f L :=
  ⟨⟨h.1.1, by rw [h8]; exact h.1.2⟩, fun k hk => by
    have f0 := h.1.1
    exact ps_N_c (h.2 k hk) (e 1 _ (by decide) (by decide) (by omega) (by omega)) (e 2 _ (by decide) (by decide) (by omega) (by omega)) (e 4 _ (by decide) (by decide) (by omega) (by omega)) (e 5 _ (by decide) (by decide) (by omega) (by omega)) (fun j j0 j1 => by
      have c := ps_cd (ps_R_ok h) hk ⟨j0, j1⟩
      exact ⟨e 7 _ (by decide) (by decide) (by omega) (by omega), e 3 _ (by decide) (by decide) (by omega) (by omega)⟩) (fun _ _ => ⟨rfl, rfl⟩)⟩
/-- a link between two that wait -/
theorem ps_R_l {M : zM} {o f x y s : Int} {L : Nat} (h : ps_R M o st v f L) (a b : Int) (ha : 0 ≤ a ∧ a < (zsp st v L).1) (hb : 0 ≤ b ∧ b < (zsp st v L).1) (hx : x = f + (zsp st v L).2 a) (hy : y = f + (zsp st v L).2 b) : ps_R (zset (zset M (o + 7) x y) (o + 3) y s) o st v f L := by
  have e1 : ∀ c i, c ≠ 7 → c ≠ 3 → zset (zset M (o + 7) x y) (o + 3) y s (o + c) i = M (o + c) i := fun c i c1 c2 => by rw [zset_ne (fun z => c2 (by omega)), zset_ne (fun z => c1 (by omega))]
  have e8 : zset (zset M (o + 7) x y) (o + 3) y s o 8 = M o 8 := by rw [zset_ne (fun z => by omega), zset_ne (fun z => by omega)]
  refine ⟨⟨h.1.1, by rw [e8]; exact h.1.2⟩, fun k hk => ps_N_c (h.2 k hk) (e1 1 _ (by decide) (by decide)) (e1 2 _ (by decide) (by decide)) (e1 4 _ (by decide) (by decide)) (e1 5 _ (by decide) (by decide)) (fun j j0 j1 => ?_) (fun _ _ => ⟨rfl, rfl⟩)⟩
  have oa := ps_off L (ps_R_ok h) k j a hk ⟨j0, j1⟩ ha.1 ha.2
  have ob := ps_off L (ps_R_ok h) k j b hk ⟨j0, j1⟩ hb.1 hb.2
  constructor
  · rw [zset_ne (fun z => by omega), zset_ne (fun z => oa (by omega))]
  · rw [zset_ne (fun z => ob (by omega)), zset_ne (fun z => by omega)]
/-- one node more -/
theorem ps_R_n {M M' : zM} {o f : Int} {L : Nat} {s w : Int} (h : ps_R M o st v f L) (h8 : M' o 8 = f + L + 1) (e : ∀ a x, 1 ≤ a → a ≤ 7 → 0 ≤ x → x < f + L → M' (o + a) x = M (o + a) x) (hn : ps_N (M' (o + 1)) (M' (o + 2)) (M' (o + 3)) (M' (o + 4)) (M' (o + 5)) (M' (o + 7)) (zup st L s) (zup v L w) f L) : ps_R M' o (zup st L s) (zup v L w) f (L + 1) := by
  have f0 := h.1.1
  refine ⟨⟨f0, by rw [h8]; omega⟩, fun k hk => ?_⟩
  by_cases c : k = L
  · rw [c]; exact hn
  · refine ps_N_c (h.2 k (by omega)) (e 1 _ (by decide) (by decide) (by omega) (by omega)) (e 2 _ (by decide) (by decide) (by omega) (by omega)) (e 4 _ (by decide) (by decide) (by omega) (by omega)) (e 5 _ (by decide) (by decide) (by omega) (by omega)) (fun j j0 j1 => ?_) (fun i hi => ⟨zup_ne (by omega), zup_ne (by omega)⟩)
    have cc := ps_cd (ps_R_ok h) (show k < L by omega) ⟨j0, j1⟩
    exact ⟨e 7 _ (by decide) (by decide) (by omega) (by omega), e 3 _ (by decide) (by decide) (by omega) (by omega)⟩
/-- the steps ahead of the last one are what they were -/
theorem ps_up {L : Nat} {s w : Int} : zsp (zup st L s) (zup v L w) L = zsp st v L := zsp_e L (fun k hk => ⟨zup_ne (by omega), zup_ne (by omega)⟩)
theorem ps_up1 {L : Nat} {s w : Int} : zsp (zup st L s) (zup v L w) (L + 1) = ((zsp st v L).1 - zpn s w + 1, zup (zsp st v L).2 ((zsp st v L).1 - zpn s w) L) := by
  rw [ps_st]
  unfold zbs
  rw [ps_up, zup_at, zup_at]
theorem ps_upcd {L : Nat} {s w j : Int} : zcd (zup st L s) (zup v L w) L j = (zsp st v L).2 ((zsp st v L).1 - zpn s w + j) := by
  unfold zcd zbs
  rw [ps_up, zup_at, zup_at]
end PS1
