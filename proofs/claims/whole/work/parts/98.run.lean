section
theorem whole_run {L : Nat} {xs : Nat → Int32} (hL : L ≤ 3072) : en_Run L xs := by
  sorry
end
