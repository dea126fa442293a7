section
/-! the class: who leaves, joins, comes, moves -/
variable {xs : Nat → Int32} {xl : Nat} {I J : w_I} {b : Bool} {Q : Option Value → w_I → w_I → Bool → Prop}
variable {s : Int → Int}
theorem c14 (rf : c_rf 20 I s) (wf : m_wf s) {p : Int} (hp : m_isP s p) (k : ∀ I', w_fr pF I I' → c_rf 20 I' (m_die s p) → Q none I' J b) : w_C xs xl 14 [.ref 20, w_i p] I J b Q := by
  have rf' := rf
  simp only [c_rf, Nat.reduceAdd] at rf'
  obtain ⟨-, -, -, -, rp, rff, rh, rm⟩ := rf'
  have w := wf.1
  have w0 := w.1
  have hp1 := hp.1
  have hp2 := hp.2.1
  have hp3 := hp.2.2
  have wp := w.2.2.1 p hp1 hp2
  have rp := rp p hp1 hp2
  have e25 : I 25 p = s (100 + 6 * p + 5) := by omega
  have e24 : I 24 p = s (100 + 6 * p + 3) := by omega
  have ff : m_isF s (s (100 + 6 * p + 5)) := ⟨by omega, by omega, wf.2.1 p hp⟩
  have rg := rff _ ff.1 ff.2.1
  have e26 := rg.1
  have sz := wf.2.2.1 _ ff
  have wg := w.2.2.2.1 _ ff.1 ff.2.1
  refine e14 ?_
  refine b14_0 ?_
  try simp only [w_Ug, reduceIte, Nat.reduceEqDiff, Int.reduceEq, eq_self, e25, e24]
  repeat' (first | apply And.intro | intro)
  all_goals (try first | omega | contradiction)
  · rename_i hz
    refine k _ ?_ (c_rf_die rf wf hp rfl ?_ ?_ ?_ ?_ ?_ ?_)
    · exact w_frU (w_frU (w_frU w_frr rfl) rfl) rfl
    · intro a a1 a2 a3 a4 a5
      rw [w_Ua a3, w_Ua a2, w_Ua a1]
    · intro q
      simp only [w_Ug, reduceIte, Nat.reduceEqDiff]
      exact ⟨fun h => if_pos h, fun h => if_neg h⟩
    · intro q
      simp only [w_Ug, reduceIte, Nat.reduceEqDiff]
      exact ⟨fun h => if_pos h, fun h => if_neg h⟩
    · intro q
      simp only [w_Ug, reduceIte, Nat.reduceEqDiff]
      exact ⟨fun h => if_pos h, fun h => if_neg h⟩
    · intro q
      simp only [w_Ug, reduceIte, Nat.reduceEqDiff]
      exact ⟨fun h => by omega, fun h => trivial⟩
    · intro q
      simp only [w_Ug, reduceIte, Nat.reduceEqDiff]
      exact ⟨fun h => by omega, fun h => trivial⟩
  · rename_i hz
    refine e15 ?_
    refine b15_0 ?_
    try simp only [w_Ug, reduceIte, Nat.reduceEqDiff, Int.reduceEq, eq_self, if_true]
    repeat' (first | apply And.intro | intro)
    all_goals (try first | omega | contradiction)
    · rename_i hh
      refine b14_53 (k _ ?_ (c_rf_die rf wf hp rfl ?_ ?_ ?_ ?_ ?_ ?_))
      · exact w_frU (w_frU (w_frU w_frr rfl) rfl) rfl
      · intro a a1 a2 a3 a4 a5
        rw [w_Ua a3, w_Ua a2, w_Ua a1]
      · intro q
        simp only [w_Ug, reduceIte, Nat.reduceEqDiff]
        exact ⟨fun h => if_pos h, fun h => if_neg h⟩
      · intro q
        simp only [w_Ug, reduceIte, Nat.reduceEqDiff]
        exact ⟨fun h => if_pos h, fun h => if_neg h⟩
      · intro q
        simp only [w_Ug, reduceIte, Nat.reduceEqDiff]
        exact ⟨fun h => if_pos h, fun h => if_neg h⟩
      · intro q
        simp only [w_Ug, reduceIte, Nat.reduceEqDiff]
        exact ⟨fun h => by rw [h.1]; exact hh, fun h => trivial⟩
      · intro q
        simp only [w_Ug, reduceIte, Nat.reduceEqDiff]
        exact ⟨fun h => by omega, fun h => trivial⟩
    · rename_i hh
      refine b14_53 (k _ ?_ (c_rf_die rf wf hp rfl ?_ ?_ ?_ ?_ ?_ ?_))
      · exact w_frU (w_frU (w_frU (w_frU (w_frU w_frr rfl) rfl) rfl) rfl) rfl
      · intro a a1 a2 a3 a4 a5
        rw [w_Ua a4, w_Ua a5, w_Ua a3, w_Ua a2, w_Ua a1]
      · intro q
        simp only [w_Ug, reduceIte, Nat.reduceEqDiff]
        exact ⟨fun h => if_pos h, fun h => if_neg h⟩
      · intro q
        simp only [w_Ug, reduceIte, Nat.reduceEqDiff]
        exact ⟨fun h => if_pos h, fun h => if_neg h⟩
      · intro q
        simp only [w_Ug, reduceIte, Nat.reduceEqDiff]
        exact ⟨fun h => if_pos h, fun h => if_neg h⟩
      · intro q
        simp only [w_Ug, reduceIte, Nat.reduceEqDiff]
        exact ⟨fun h => if_pos h.1, fun h => if_neg (by omega)⟩
      · intro q
        simp only [w_Ug, reduceIte, Nat.reduceEqDiff]
        exact ⟨fun h => if_pos (by omega), fun h => if_neg (by omega)⟩
end
