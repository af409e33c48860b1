def zbit (s k : Int) : Prop := zand (zshr s k) 1 = 1
def zlet (c : Int) : Prop := (97 ≤ c ∧ c ≤ 122) ∨ (65 ≤ c ∧ c ≤ 90)
def zpl (m n v : Int) : Int := (m * 5 + n - 1) * 1001 + v + 500
def zplr (m n v : Int) : Prop := (0 ≤ m ∧ m ≤ 9) ∧ (0 ≤ n ∧ n ≤ 6) ∧ (-1000 ≤ v ∧ v ≤ 1000)
def zce (n v : Int) : Int := 1001 * n + v + 500
def zcer (n v : Int) : Prop := (0 ≤ n ∧ n ≤ 6) ∧ (-1000 ≤ v ∧ v ≤ 1000)
def zkn (v : Int) : Int := if 100000 ≤ v then -1 else v
def zcl (v : Int) : Int := if 1000000 < v then 1000000 else if v < -1000000 then -1000000 else v
theorem zcl_in (v : Int) : -1000000 ≤ zcl v ∧ zcl v ≤ 1000000 := by unfold zcl; split; omega; split <;> omega
section S0
variable {G : zG} {d : Nat} {M : zM} {Q : zV → zM → Prop}
theorem s_within (hG : zP G) {x0 x1 x2 : Int} (h1 : x1 ≤ x0 ∧ x0 ≤ x2 → Q (0, 1) M) (h0 : ¬ (x1 ≤ x0 ∧ x0 ≤ x2) → Q (0, 0) M) : Y G d mX11_within 0 [(0, x0), (0, x1), (0, x2)] [] M Q :=
  bX11_within_0 hG ⟨fun q => h0 (by omega), fun q => ⟨fun q2 => h0 (by omega), fun q2 => h1 ⟨q, q2⟩⟩⟩
theorem s_isIn (hG : zP G) {x0 x1 x2 : Int} (h1 : x1 ≤ x0 ∧ x0 ≤ x2 → Q (0, 1) M) (h0 : ¬ (x1 ≤ x0 ∧ x0 ≤ x2) → Q (0, 0) M) : Y G d mX12_isIn 0 [(0, x0), (0, x1), (0, x2)] [] M Q :=
  bX12_isIn_0 hG ⟨fun q => h0 (by omega), fun q => ⟨fun q2 => h0 (by omega), fun q2 => h1 ⟨q, q2⟩⟩⟩
theorem s_has (hG : zP G) {x0 x1 : Int} (h1 : zbit x0 x1 → Q (0, 1) M) (h0 : ¬ zbit x0 x1 → Q (0, 0) M) : Y G d mX12_has 0 [(0, x0), (0, x1)] [] M Q :=
  bX12_has_0 hG ⟨fun q => h0 q, fun q => h1 q⟩
theorem s_isDigit (hG : zP G) {x0 : Int} (h1 : 48 ≤ x0 ∧ x0 ≤ 57 → Q (0, 1) M) (h0 : ¬ (48 ≤ x0 ∧ x0 ≤ 57) → Q (0, 0) M) : Y G d mX8_isDigit 0 [(0, x0)] [] M Q :=
  bX8_isDigit_0 hG ⟨fun q => h0 (by omega), fun q => ⟨fun q2 => h0 (by omega), fun q2 => h1 ⟨q, q2⟩⟩⟩
theorem s_isFigure (hG : zP G) {x0 : Int} (h1 : 48 ≤ x0 ∧ x0 ≤ 57 → Q (0, 1) M) (h0 : ¬ (48 ≤ x0 ∧ x0 ≤ 57) → Q (0, 0) M) : Y G d mX12_isFigure 0 [(0, x0)] [] M Q :=
  bX12_isFigure_0 hG ⟨fun q => h0 (by omega), fun q => ⟨fun q2 => h0 (by omega), fun q2 => h1 ⟨q, q2⟩⟩⟩
theorem s_isLetter (hG : zP G) {x0 : Int} (h1 : zlet x0 → Q (0, 1) M) (h0 : ¬ zlet x0 → Q (0, 0) M) : Y G d mX8_isLetter 0 [(0, x0)] [] M Q := by
  unfold zlet at h1 h0
  refine bX8_isLetter_0 hG ?_
  repeat' (first | (apply And.intro) | (intro q))
  all_goals first | (exact h1 (by omega)) | (exact h0 (by omega))
theorem s_isLetterByte (hG : zP G) {x0 : Int} (h1 : zlet x0 → Q (0, 1) M) (h0 : ¬ zlet x0 → Q (0, 0) M) : Y G d mX12_isLetterByte 0 [(0, x0)] [] M Q := by
  unfold zlet at h1 h0
  refine bX12_isLetterByte_0 hG ?_
  repeat' (first | (apply And.intro) | (intro q))
  all_goals first | (exact h1 (by omega)) | (exact h0 (by omega))
theorem s_placeOf (hG : zP G) {x0 x1 x2 : Int} (hr : zplr x0 x1 x2) (h : Q (0, zpl x0 x1 x2) M) : Y G d mX9_placeOf 0 [(0, x0), (0, x1), (0, x2)] [] M Q := by
  obtain ⟨a, b, c⟩ := hr
  refine bX9_placeOf_0 hG ?_
  repeat' (first | omega | (apply And.intro))
  exact h
theorem s_cell (hG : zP G) {x0 x1 : Int} (hr : zcer x0 x1) (h : Q (0, zce x0 x1) M) : Y G d mX12_cell 0 [(0, x0), (0, x1)] [] M Q := by
  obtain ⟨a, b⟩ := hr
  refine bX12_cell_0 hG ?_
  repeat' (first | omega | (apply And.intro))
  exact h
theorem s_known (hG : zP G) {x0 : Int} (h : Q (0, zkn x0) M) : Y G d mX12_known 0 [(0, x0)] [] M Q := by
  refine bX12_known_0 hG ⟨fun q => ?_, fun q => ?_⟩
  · rw [zkn, if_neg (by omega)] at h; exact h
  · rw [zkn, if_pos (by omega)] at h; exact h
theorem zlcmp_le {a b : Int} : zlcmp a b ≤ 0 ↔ a ≤ b := by unfold zlcmp; split; omega; split <;> omega
theorem zlcmp_ge {a b : Int} : 0 ≤ zlcmp a b ↔ b ≤ a := by unfold zlcmp; split; omega; split <;> omega
theorem zlcmp_lt {a b : Int} : zlcmp a b < 0 ↔ a < b := by unfold zlcmp; split; omega; split <;> omega
theorem zlcmp_gt {a b : Int} : 0 < zlcmp a b ↔ b < a := by unfold zlcmp; split; omega; split <;> omega
theorem zlcmp_eq {a b : Int} : zlcmp a b = 0 ↔ a = b := by unfold zlcmp; split; omega; split <;> omega
theorem s_compare (hG : zP G) {x0 x1 : Int} (h : Q (0, zlcmp x0 x1) M) : Y G d mJ6_compare_7cf53 0 [(0, x0), (0, x1)] [] M Q := by
  refine bJ6_compare_7cf53_0 hG ⟨fun q => ⟨fun q2 => ?_, fun q2 => ?_⟩, fun q => ?_⟩
  · rw [zlcmp, if_neg (by omega), if_neg (by omega)] at h; exact h
  · rw [zlcmp, if_neg (by omega), if_pos (by omega)] at h; exact h
  · rw [zlcmp, if_pos (by omega)] at h; exact h
theorem s_clamped (hG : zP G) {x0 : Int} (h : Q (0, zcl x0) M) : Y G d mX11_clamped 0 [(1, x0), (9, 0)] [] M Q := by
  refine bX11_clamped_0 hG ⟨fun q => ⟨fun q2 => ?_, fun q2 => ?_⟩, fun q => ?_⟩
  · rw [zlcmp_le] at q; rw [zlcmp_ge] at q2
    rw [zw_of ⟨by omega, by omega⟩]; rw [zcl, if_neg (by omega), if_neg (by omega)] at h; exact h
  · rw [zlcmp_le] at q; rw [zlcmp_lt] at q2
    rw [zcl, if_neg (by omega), if_pos (by omega)] at h; exact h
  · rw [zlcmp_gt] at q
    rw [zcl, if_pos (by omega)] at h; exact h
theorem s_held (hG : zP G) {x0 : Int} (h : Q (1, zcl x0) M) : Y G d mX12_held 0 [(1, x0), (9, 0)] [] M Q := by
  refine bX12_held_0 hG ⟨fun q => ⟨fun q2 => ?_, fun q2 => ?_⟩, fun q => ?_⟩
  · rw [zlcmp_le] at q; rw [zlcmp_ge] at q2
    rw [zcl, if_neg (by omega), if_neg (by omega)] at h; exact h
  · rw [zlcmp_le] at q; rw [zlcmp_lt] at q2
    rw [zcl, if_neg (by omega), if_pos (by omega)] at h; exact h
  · rw [zlcmp_gt] at q
    rw [zcl, if_pos (by omega)] at h; exact h
end S0
theorem nd_at {i : Int} (h : 0 ≤ i ∧ i < 12) : zfx 28 i = 49 + 9 * i ∧ 49 + 9 * i ≠ 0 ∧ zND (49 + 9 * i) := by
  obtain ⟨k, rfl⟩ : ∃ k : Nat, i = (k : Int) := ⟨i.toNat, by omega⟩
  have hall : ∀ k : Nat, k < 12 → zfx 28 (k : Int) = 49 + 9 * (k : Int) ∧ (49 + 9 * (k : Int)) ∈ ([31, 40, 49, 58, 67, 76, 85, 94, 103, 112, 121, 130, 139, 148, 189, 201, 213, 225] : List Int) := by decide +kernel
  have h1 := hall k (by omega)
  exact ⟨h1.1, by omega, h1.2⟩
theorem sc_at {i : Int} (h : 0 ≤ i ∧ i < 4) : zfx 18 i = 186 + 12 * i ∧ 186 + 12 * i ≠ 0 ∧ zSC (186 + 12 * i) := by
  obtain ⟨k, rfl⟩ : ∃ k : Nat, i = (k : Int) := ⟨i.toNat, by omega⟩
  have hall : ∀ k : Nat, k < 4 → zfx 18 (k : Int) = 186 + 12 * (k : Int) ∧ (186 + 12 * (k : Int)) ∈ ([186, 198, 210, 222] : List Int) := by decide +kernel
  have h1 := hall k (by omega)
  exact ⟨h1.1, by omega, h1.2⟩
