theorem zA5 {A : Int → Int} (h : zVA A) : A 5 ≤ 6 := by obtain ⟨h0, h1, h2, h3, h4, h5, -⟩ := h; have := h5.1; have := h2.1; omega
theorem zA7 {A : Int → Int} (h : zVA A) : A 7 ≤ 8 := by obtain ⟨h0, h1, h2, h3, h4, h5, h6, h7, -⟩ := h; exact h7.1.2
theorem zA8 {A : Int → Int} (h : zVA A) : A 8 ≤ 12 := by obtain ⟨h0, h1, h2, h3, h4, h5, h6, h7, h8, -⟩ := h; exact h8.1.2
def zJC (M : zM) : Prop := True
def zSCx : List (Int × Int × Int) := []
theorem zJC_c {M M' : zM} (h : zsm zSCx M M') (j : zJC M) : zJC M' := trivial
def zJ (M : zM) : Prop := zVA (M 235) ∧ zVA (M 236) ∧ zJ1 M ∧ zJ2 M ∧ zJ3 M ∧ zJ4 M ∧ zJ10 M ∧ zJ5 M ∧ zJ6 M ∧ zJ7 M ∧ zJ8 M ∧ zJ9 M ∧ zJ11 M ∧ zJ12 M ∧ zJ13 M ∧ zJ14 M ∧ zJ15 M ∧ zJ18 M ∧ zJ19 M ∧ zJ16 M ∧ zJ17 M ∧ zJF M ∧ zJS M M ∧ 0 ≤ M 2 10 ∧ zJC M
def zJn (M0 M : zM) : Prop := zJ M ∧ M 2 10 ≤ M0 2 10 + 100
theorem zJ_rf {M : zM} (h : zJ M) : zJn M M := ⟨h, by omega⟩
