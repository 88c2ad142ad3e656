--BLTRUE
/-! small rows for the constructors -/
theorem hrA {n d e z : Nat} (h1 : d ≤ n) (h2 : n + 1 ≤ e) (hz : szc n = z) : n - d + 1 ≤ e - d ∧ slt n - slt d + z ≤ slt e - slt d := by
  have m1 := slt_mono h1
  have m2 := slt_mono h2
  have e1 : slt (n + 1) = slt n + z := by rw [slt, hz]
  omega
theorem hrC {k d e0 e : Nat} (h1 : d ≤ k) (h2 : k ≤ e0) (h3 : e0 ≤ e) : k - d + (e0 - k) ≤ e - d ∧ slt k - slt d + (slt e0 - slt k) ≤ slt e - slt d := by
  have m1 := slt_mono h1
  have m2 := slt_mono h2
  have m3 := slt_mono h3
  omega
theorem hrM {n d e a b : Nat} (h1 : d ≤ n) (h2 : n + 1 + a ≤ e) (hsh : (SH n).1 = 5 ∧ (SH n).2.1 = a ∧ (SH n).2.2.1 = n + 1 ∧ (SH n).2.2.2 = 1) (hin : ∀ i, i < a → (SH (n + 1 + i)).1 = 1 ∧ (SH (n + 1 + i)).2.1 = b) : n - d + (1 + a) ≤ e - d ∧ slt n - slt d + (a + a * b) ≤ slt e - slt d := by
  have m1 := slt_mono h1
  have m2 := slt_mono h2
  have hs1 : slt (n + 1 + a) = slt (n + 1) + a * b := slt_row (n := n + 1) a hin
  have hs0 : slt (n + 1) = slt n + a := by
    show slt n + szc n = _
    rw [szc_arr ⟨hsh.1, hsh.2.1⟩ (by decide)]
  omega
theorem hrQ {n d e a b r : Nat} (h1 : d ≤ n) (h2 : n + 1 + a * (1 + b) ≤ e) (hsh : (SH n).1 = 6 ∧ (SH n).2.1 = a ∧ (SH n).2.2.1 = n + 1 ∧ (SH n).2.2.2 = 1 + b)
    (hgr : ∀ j, j < a → (SH (n + 1 + j * (1 + b))).1 = 5 ∧ (SH (n + 1 + j * (1 + b))).2.1 = b ∧ (SH (n + 1 + j * (1 + b))).2.2.1 = n + 1 + j * (1 + b) + 1 ∧ (SH (n + 1 + j * (1 + b))).2.2.2 = 1)
    (hin : ∀ j, j < a → ∀ t, t < b → (SH (n + 1 + j * (1 + b) + 1 + t)).1 = 1 ∧ (SH (n + 1 + j * (1 + b) + 1 + t)).2.1 = r) : n - d + (1 + a * (1 + b)) ≤ e - d ∧ slt n - slt d + (a + a * (b + b * r)) ≤ slt e - slt d := by
  have m1 := slt_mono h1
  have m2 := slt_mono h2
  have hs1 : slt (n + 1 + a * (1 + b)) = slt (n + 1) + a * (b + b * r) := slt_cub (n := n + 1) (fun j hj => ⟨(hgr j hj).1, (hgr j hj).2.1⟩) hin a (Nat.le_refl _)
  have hs0 : slt (n + 1) = slt n + a := by
    show slt n + szc n = _
    rw [szc_arr ⟨hsh.1, hsh.2.1⟩ (by decide)]
  omega
theorem slt337 : slt 337 = 14651 := by decide +kernel
theorem hrL {e x y : Nat} (he : e ≤ 337) (h : x ≤ e - 0 ∧ y ≤ slt e - slt 0) : x ≤ room_1.cells ∧ y ≤ room_1.slots := by
  have m := slt_mono he
  rw [slt337] at m
  show x ≤ 601024 ∧ y ≤ 7293033
  omega
