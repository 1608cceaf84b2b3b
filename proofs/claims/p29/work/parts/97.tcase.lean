/-! edition, rests -/
theorem lvs_lt {x : Nat → Int32} {b n : Nat} : ∀ {i j u v : Nat}, (lvs x b n)[i]? = some u → (lvs x b n)[j]? = some v → i < j → u < v := by
  induction n with
  | zero => intro i j u v h; simp [lvs] at h
  | succ n ih =>
    intro i j u v hi hj hij
    by_cases c : x n = nI b
    · have el : lvs x b (n + 1) = lvs x b n ++ [n] := by
        show lvs x b n ++ (if x n = nI b then [n] else []) = _
        rw [if_pos c]
      rw [el] at hi hj
      have h2 := lt_some hj
      rw [List.length_append] at h2
      have e1 : [n].length = 1 := rfl
      rw [List.getElem?_append_left (by omega)] at hi
      by_cases cj : j < (lvs x b n).length
      · rw [List.getElem?_append_left cj] at hj
        exact ih hi hj hij
      · have : j = (lvs x b n).length := by omega
        subst this
        rw [List.getElem?_append_right (Nat.le_refl _), Nat.sub_self] at hj
        have : n = v := Option.some.inj hj
        subst this
        exact (lvs_mem.mp (List.mem_of_getElem? hi)).1
    · have el : lvs x b (n + 1) = lvs x b n := by
        show lvs x b n ++ (if x n = nI b then [n] else []) = _
        rw [if_neg c, List.append_nil]
      rw [el] at hi hj
      exact ih hi hj hij
