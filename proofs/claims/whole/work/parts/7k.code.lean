/-! Codes: digits. -/
def cd_n (b : Nat) (P : Nat → Nat) : Nat → Nat
  | 0 => 0
  | n + 1 => cd_n b P n + P n * b ^ n
theorem cd_lt {b : Nat} {P : Nat → Nat} (hP : ∀ s, P s < b) : ∀ n, cd_n b P n < b ^ n
  | 0 => by show 0 < b ^ 0; rw [Nat.pow_zero]; decide
  | n + 1 => by
    have h := cd_lt hP n
    rw [cd_n, Nat.pow_succ]
    have h2 : P n * b ^ n ≤ (b - 1) * b ^ n := Nat.mul_le_mul_right _ (by have := hP n; omega)
    have h3 : (b - 1) * b ^ n + b ^ n = b ^ n * b := by
      have hb := hP n
      obtain ⟨c, rfl⟩ : ∃ c, b = c + 1 := ⟨b - 1, by omega⟩
      rw [Nat.add_sub_cancel, Nat.mul_comm ((c + 1) ^ n) (c + 1), Nat.add_mul, Nat.one_mul]
    omega
theorem cd_dig {b : Nat} {P : Nat → Nat} (hP : ∀ s, P s < b) : ∀ (n s : Nat), s < n → cd_n b P n / b ^ s % b = P s
  | 0, s, h => by omega
  | n + 1, s, h => by
    have hb : 0 < b := by have := hP 0; omega
    rw [cd_n]
    by_cases e : s = n
    · subst e
      rw [Nat.add_mul_div_right _ _ (Nat.pow_pos hb), Nat.div_eq_of_lt (cd_lt hP s), Nat.zero_add, Nat.mod_eq_of_lt (hP s)]
    · have hs : s < n := by omega
      obtain ⟨d, rfl⟩ : ∃ d, n = s + 1 + d := ⟨n - s - 1, by omega⟩
      have e1 : P (s + 1 + d) * b ^ (s + 1 + d) = P (s + 1 + d) * b ^ d * b * b ^ s := by
        rw [Nat.pow_add, Nat.pow_add, Nat.pow_one]
        simp only [Nat.mul_assoc, Nat.mul_comm, Nat.mul_left_comm]
      rw [e1, Nat.add_mul_div_right _ _ (Nat.pow_pos hb), Nat.add_mul_mod_self_right]
      exact cd_dig hP (s + 1 + d) s hs
theorem cd_ext {b : Nat} {P Q : Nat → Nat} : ∀ {n : Nat}, (∀ s, s < n → P s = Q s) → cd_n b P n = cd_n b Q n
  | 0, _ => rfl
  | n + 1, h => by rw [cd_n, cd_n, cd_ext (fun s hs => h s (by omega)), h n (by omega)]
theorem cd_inj {b : Nat} {P Q : Nat → Nat} {n : Nat} (hP : ∀ s, P s < b) (hQ : ∀ s, Q s < b) (h : cd_n b P n = cd_n b Q n) : ∀ s, s < n → P s = Q s := fun s hs => by rw [← cd_dig hP n s hs, ← cd_dig hQ n s hs, h]
