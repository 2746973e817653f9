/-! ===== stub: the true one lies in wip/whole/later ===== -/
theorem mt_ok : ∀ (id : Nat) (q : MDat), mt[id]? = some q → okM mt q = true := sorry
