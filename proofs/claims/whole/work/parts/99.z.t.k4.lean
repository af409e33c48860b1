section KN
theorem zVA_0 {A : Int → Int} (h : ∀ i, 0 ≤ i → i < 156 → A i = 0) : zVA A := by
  have e0 := h 0 (by decide) (by decide)
  have e1 := h 1 (by decide) (by decide)
  have e2 := h 2 (by decide) (by decide)
  have e3 := h 3 (by decide) (by decide)
  have e4 := h 4 (by decide) (by decide)
  have e5 := h 5 (by decide) (by decide)
  have e6 := h 6 (by decide) (by decide)
  have e7 := h 7 (by decide) (by decide)
  have e8 := h 8 (by decide) (by decide)
  refine ⟨⟨by omega, by omega⟩, ⟨⟨by omega, by omega⟩, fun i i0 i1 => absurd i1 (by omega)⟩, ⟨⟨by omega, by omega⟩, fun i i0 i1 => absurd i1 (by omega)⟩, ⟨by omega, by omega⟩, ⟨by omega, by omega⟩, ⟨⟨by omega, by omega⟩, fun i i0 i1 => absurd i1 (by omega), fun i j i0 i1 i2 => absurd i2 (by omega)⟩, ⟨by omega, by omega⟩, ⟨⟨by omega, by omega⟩, fun i i0 i1 => absurd i1 (by omega)⟩, ⟨⟨by omega, by omega⟩, fun i i0 i1 => absurd i1 (by omega)⟩, fun t t0 t1 => ?_, fun k k0 k1 => ?_⟩
  · rw [h (10 + t) (by omega) (by omega)]; decide
  · rw [h (38 + k) (by omega) (by omega)]; decide
variable {M : zM}
theorem kJ (h : kI M) : zJ M := by
  obtain ⟨hm, hv, ⟨hf6, hf7⟩, hI, hR⟩ := h
  have ar : ∀ a i, 1 ≤ a → a ≤ 267 → a ≠ 8 → a ≠ 9 → a ≠ 10 → a ≠ 236 → (zsh a.toNat).1 = 100 → M a i = 0 := fun a i c1 c2 c3 c4 c5 c6 c7 => by
    have hne : ∀ b : Int, (zsh b.toNat).1 ≠ 100 → a ≠ b := fun b q e => q (by rw [← e]; exact c7)
    rw [hm a i c1 c2 c3 c4 c5 c6 (fun q => hne 2 (by decide +kernel) q.1) (fun q => hne 234 (by decide +kernel) q.1)]
    exact zfx_arr (k := 100) (len := (zsh a.toNat).2) (by rw [← c7]) (Or.inl rfl)
  have hA : ∀ i, M 235 i = 0 := fun i => ar 235 i (by decide) (by decide) (by decide) (by decide) (by decide) (by decide) (by decide +kernel)
  have z3 : ∀ i, M 3 i = 0 := fun i => ar 3 i (by decide) (by decide) (by decide) (by decide) (by decide) (by decide) (by decide +kernel)
  have z7 : ∀ i, M 7 i = 0 := fun i => ar 7 i (by decide) (by decide) (by decide) (by decide) (by decide) (by decide) (by decide +kernel)
  have z185 : ∀ i, M 185 i = 0 := fun i => ar 185 i (by decide) (by decide) (by decide) (by decide) (by decide) (by decide) (by decide +kernel)
  have z172 : ∀ i, M 172 i = 0 := fun i => ar 172 i (by decide) (by decide) (by decide) (by decide) (by decide) (by decide) (by decide +kernel)
  have z173 : ∀ i, M 173 i = 0 := fun i => ar 173 i (by decide) (by decide) (by decide) (by decide) (by decide) (by decide) (by decide +kernel)
  have fl : ∀ a i, 1 ≤ a → a ≤ 267 → a ≠ 8 → a ≠ 9 → a ≠ 10 → a ≠ 236 → ¬ (a = 2 ∧ i = 10) → ¬ (a = 234 ∧ (i = 6 ∨ i = 7)) → zfx a i = 0 → M a i = 0 := fun a i c1 c2 c3 c4 c5 c6 c7 c8 c9 => (hm a i c1 c2 c3 c4 c5 c6 c7 c8).trans c9
  have f24 := fl 2 4 (by decide) (by decide) (by decide) (by decide) (by decide) (by decide) (by decide) (by decide) (by decide +kernel)
  have f131 := fl 13 1 (by decide) (by decide) (by decide) (by decide) (by decide) (by decide) (by decide) (by decide) (by decide +kernel)
  have f2345 := fl 234 5 (by decide) (by decide) (by decide) (by decide) (by decide) (by decide) (by decide) (by decide) (by decide +kernel)
  have f121 := fl 12 1 (by decide) (by decide) (by decide) (by decide) (by decide) (by decide) (by decide) (by decide) (by decide +kernel)
  have f13 := fl 1 3 (by decide) (by decide) (by decide) (by decide) (by decide) (by decide) (by decide) (by decide) (by decide +kernel)
  have f198 := fl 19 8 (by decide) (by decide) (by decide) (by decide) (by decide) (by decide) (by decide) (by decide) (by decide +kernel)
  have f199 := fl 19 9 (by decide) (by decide) (by decide) (by decide) (by decide) (by decide) (by decide) (by decide) (by decide +kernel)
  have f1913 := fl 19 13 (by decide) (by decide) (by decide) (by decide) (by decide) (by decide) (by decide) (by decide) (by decide +kernel)
  have f1575 := fl 157 5 (by decide) (by decide) (by decide) (by decide) (by decide) (by decide) (by decide) (by decide) (by decide +kernel)
  have f1576 := fl 157 6 (by decide) (by decide) (by decide) (by decide) (by decide) (by decide) (by decide) (by decide) (by decide +kernel)
  have f1579 := fl 157 9 (by decide) (by decide) (by decide) (by decide) (by decide) (by decide) (by decide) (by decide) (by decide +kernel)
  have f1762 := fl 176 2 (by decide) (by decide) (by decide) (by decide) (by decide) (by decide) (by decide) (by decide) (by decide +kernel)
  have f1767 := fl 176 7 (by decide) (by decide) (by decide) (by decide) (by decide) (by decide) (by decide) (by decide) (by decide +kernel)
  have f17611 := fl 176 11 (by decide) (by decide) (by decide) (by decide) (by decide) (by decide) (by decide) (by decide) (by decide +kernel)
  have f17612 := fl 176 12 (by decide) (by decide) (by decide) (by decide) (by decide) (by decide) (by decide) (by decide) (by decide +kernel)
  have hAe : M 235 = fun _ => 0 := funext hA
  have i0 := hI 0 (by decide) (by decide)
  have i1 := hI 1 (by decide) (by decide)
  have i2 := hI 2 (by decide) (by decide)
  have i3 := hI 3 (by decide) (by decide)
  have i4 := hI 4 (by decide) (by decide)
  have i5 := hI 5 (by decide) (by decide)
  have i6 := hI 6 (by decide) (by decide)
  have i7 := hI 7 (by decide) (by decide)
  have i8 := hI 8 (by decide) (by decide)
  refine ⟨zVA_0 (fun i _ _ => hA i), zVA_0 hI, ?_, ?_, ?_, ?_, ?_, ?_, ?_, ?_, ?_, ?_, ?_, ?_, ?_, ?_, ?_, ?_, ?_, ?_, ?_, ?_, ?_, by omega, ?_⟩
  · exact fun t _ _ => by rw [z3, hA]
  · exact ⟨by rw [f24, hA], fun i _ q => absurd q (by rw [hA]; omega)⟩
  · exact fun k _ _ => by rw [z7, hA]
  · exact ⟨fun x y x0 x1 _ _ => absurd x1 (by rw [hA]; omega), fun p p0 p1 => absurd p1 (by rw [hA]; omega)⟩
  · intro x y x0 x1 y0 y1
    rw [hAe]
    exact ((hR x y x0 x1 y0 y1).1 x1 y1).1
  · exact ⟨by rw [f131, f2345], by rw [f131]; decide, fun k k0 k1 => absurd k1 (by rw [f131]; omega)⟩
  · exact Or.inl ⟨f121, hf6, hf7⟩
  · exact f13.trans (hA 6).symm
  · exact ⟨f198.trans (hA 0).symm, fun q q0 q1 => absurd q1 (by rw [hA]; omega)⟩
  · exact f199.trans (hA 4).symm
  · exact ⟨f1575.trans (hA 2).symm, fun q q0 q1 => absurd q1 (by rw [hA]; omega)⟩
  · exact f1576.trans (hA 3).symm
  · exact ⟨f1579.trans (hA 5).symm, fun q q0 q1 => absurd q1 (by rw [hA]; omega)⟩
  · exact ⟨f1762.trans (hA 7).symm, fun q q0 q1 => absurd q1 (by rw [hA]; omega)⟩
  · exact ⟨f1767.trans (hA 8).symm, fun q q0 q1 => absurd q1 (by rw [hA]; omega)⟩
  · refine ⟨(z185 _).trans i6.symm, fun t t0 t1 => (z185 _).trans (hI _ (by omega) (by omega)).symm, (z185 _).trans i1.symm, fun k k0 k1 => (z185 _).trans (hI _ (by omega) (by omega)).symm, (z185 _).trans i0.symm, (z185 _).trans i4.symm, (z185 _).trans i2.symm, (z185 _).trans i3.symm, (z185 _).trans i5.symm, fun i q0 q1 => absurd q1 (by omega), (z185 _).trans i7.symm, fun i q0 q1 => absurd q1 (by omega), (z185 _).trans i8.symm, fun i q0 q1 => absurd q1 (by omega)⟩
  · exact ⟨⟨by rw [hA]; omega, by rw [hA]; omega, by rw [hA]; omega, by rw [hA]; omega⟩, fun k k0 k1 => absurd k1 (by omega), fun k k0 k1 => absurd k1 (by omega)⟩
  · exact fun q q0 q1 => absurd q1 (by rw [hA]; omega)
  · exact fun q q0 q1 => absurd q1 (by omega)
  · exact ⟨by omega, Or.inl f17611⟩
  · exact ⟨⟨by omega, by rw [hA]; omega⟩, fun i q0 q1 => absurd q1 (by omega)⟩
  · refine ⟨⟨fun t t0 t1 => by rw [z173]; decide, fun m m0 m1 => ⟨by rw [z172]; decide, fun k v k0 k1 => absurd k1 (by rw [z172]; omega)⟩⟩, by rw [hA]; decide, fun t t0 t1 => absurd t1 (by rw [hA]; omega)⟩
end KN
