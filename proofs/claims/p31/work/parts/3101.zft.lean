section
theorem ft_hi {n k g : Nat} (h : n < 2 ^ k) (hk : k ≤ g) : n / 2 ^ g % 2 = 0 := by
  have h2 : 2 ^ k ≤ 2 ^ g := Nat.pow_le_pow_right (by decide) hk
  rw [Nat.div_eq_of_lt (Nat.lt_of_lt_of_le h h2)]
theorem ft_lo {n k g : Nat} (hk : g < k) : (n + 2 ^ k) / 2 ^ g % 2 = n / 2 ^ g % 2 := by
  obtain ⟨j, rfl⟩ : ∃ j, k = g + (j + 1) := ⟨k - g - 1, by omega⟩
  have e : 2 ^ (g + (j + 1)) = 2 ^ g * (2 * 2 ^ j) := by rw [Nat.pow_add, Nat.pow_succ, Nat.mul_comm (2 ^ j) 2]
  rw [e, Nat.add_mul_div_left _ _ (Nat.pow_pos (by decide))]
  omega
theorem ft_at {n k : Nat} (h : n < 2 ^ k) : (n + 2 ^ k) / 2 ^ k % 2 = 1 := by
  have p : 0 < 2 ^ k := Nat.pow_pos (by decide)
  have q := Nat.add_mul_div_left n 1 p
  rw [Nat.mul_one] at q
  rw [q, Nat.div_eq_of_lt h]
end
