section
/-! folk copied -/
variable {xs : Nat → Int32} {xl : Nat} {I J : w_I} {b : Bool} {Q : Option Value → w_I → w_I → Bool → Prop}
variable {s : Int → Int}
theorem c_rf_cp {o d : Nat} {I I' : w_I} (rf : c_rf o I s) (h : I' d 13 = I o 13 ∧ I' d 14 = I o 14 ∧ I' d 15 = I o 15 ∧ I' d 16 = I o 16)
    (hp : ∀ k, 0 ≤ k → k < s 7 → I' (d + 1) k = I (o + 1) k ∧ I' (d + 2) k = I (o + 2) k ∧ I' (d + 3) k = I (o + 3) k ∧ I' (d + 4) k = I (o + 4) k ∧ I' (d + 5) k = I (o + 5) k)
    (hf : ∀ k, 0 ≤ k → k < s 8 → I' (d + 6) k = I (o + 6) k ∧ I' (d + 7) k = I (o + 7) k ∧ I' (d + 8) k = I (o + 8) k ∧ I' (d + 9) k = I (o + 9) k)
    (hh : ∀ k, 0 ≤ k → k < 24 → I' (d + 10) k = I (o + 10) k)
    (hm : ∀ k, 0 ≤ k → k < s 10 → I' (d + 11) k = I (o + 11) k ∧ I' (d + 12) k = I (o + 12) k ∧ I' (d + 13) k = I (o + 13) k) : c_rf d I' s := by
  obtain ⟨e13, e14, e15, e16, rp, rff, rh, rm⟩ := rf
  refine ⟨h.1.trans e13, h.2.1.trans e14, h.2.2.1.trans e15, h.2.2.2.trans e16, fun p x y => ?_, fun f x y => ?_, fun u x y => ?_, fun m x y => ?_⟩
  · obtain ⟨a1, a2, a3, a4, a5⟩ := hp p x y
    rw [a1, a2, a3, a4, a5]
    exact rp p x y
  · obtain ⟨a1, a2, a3, a4⟩ := hf f x y
    rw [a1, a2, a3, a4]
    exact rff f x y
  · rw [hh u x y]
    exact rh u x y
  · obtain ⟨a1, a2, a3⟩ := hm m x y
    rw [a1, a2, a3]
    exact rm m x y
theorem c4_20_34 (rf : c_rf 34 I s) (w : m_w0 s) (k : ∀ I', (∀ a, (a < 20 ∨ 33 < a) → I' a = I a) → c_rf 20 I' s → Q none I' J b) : w_C xs xl 4 [.ref 20, .ref 34] I J b Q := by
  have w0 := w.1
  have rf' := rf
  simp only [c_rf, Nat.reduceAdd] at rf'
  obtain ⟨r13, r14, r15, r16, -⟩ := rf'
  refine e4_20_34 (b4_0_20_34 ?_)
  rw [r13, r14, r15, r16]
  refine ⟨by omega, by omega, by omega, ?_⟩
  refine k _ (fun a ha => ?_) (c_rf_cp rf ?_ ?_ ?_ ?_ ?_)
  · clear w w0 rf r13 r14 r15 r16 k
    rw [w_cpa (by omega), w_cpa (by omega), w_cpa (by omega), w_cpa (by omega), w_cpa (by omega), w_cpa (by omega), w_cpa (by omega), w_cpa (by omega), w_cpa (by omega), w_cpa (by omega), w_cpa (by omega), w_cpa (by omega), w_cpa (by omega), w_Ua (by omega), w_Ua (by omega), w_Ua (by omega), w_Ua (by omega)]
  · simp only [w_cpg, w_Ug, reduceIte, Nat.reduceEqDiff, Int.reduceEq, r13, r14, r15, r16, and_self]
  · clear k
    intro k h0 h1
    clear rf w
    simp only [Nat.reduceAdd, w_cpg, w_Ug, reduceIte, Nat.reduceEqDiff]
    simp (disch := omega) only [if_pos]
    rw [show (0 : Int) + (k - 0) = k by omega]
    exact ⟨rfl, rfl, rfl, rfl, rfl⟩
  · clear k
    intro k h0 h1
    clear rf w
    simp only [Nat.reduceAdd, w_cpg, w_Ug, reduceIte, Nat.reduceEqDiff]
    simp (disch := omega) only [if_pos]
    rw [show (0 : Int) + (k - 0) = k by omega]
    exact ⟨rfl, rfl, rfl, rfl⟩
  · clear k
    intro k h0 h1
    clear rf w
    simp only [Nat.reduceAdd, w_cpg, w_Ug, reduceIte, Nat.reduceEqDiff]
    simp (disch := omega) only [if_pos]
    rw [show (0 : Int) + (k - 0) = k by omega]
  · clear k
    intro k h0 h1
    clear rf w
    simp only [Nat.reduceAdd, w_cpg, w_Ug, reduceIte, Nat.reduceEqDiff]
    simp (disch := omega) only [if_pos]
    rw [show (0 : Int) + (k - 0) = k by omega]
    exact ⟨rfl, rfl, rfl⟩
theorem c4_34_20 (rf : c_rf 20 I s) (w : m_w0 s) (k : ∀ I', (∀ a, (a < 34 ∨ 47 < a) → I' a = I a) → c_rf 34 I' s → Q none I' J b) : w_C xs xl 4 [.ref 34, .ref 20] I J b Q := by
  have w0 := w.1
  have rf' := rf
  simp only [c_rf, Nat.reduceAdd] at rf'
  obtain ⟨r13, r14, r15, r16, -⟩ := rf'
  refine e4_34_20 (b4_0_34_20 ?_)
  rw [r13, r14, r15, r16]
  refine ⟨by omega, by omega, by omega, ?_⟩
  refine k _ (fun a ha => ?_) (c_rf_cp rf ?_ ?_ ?_ ?_ ?_)
  · clear w w0 rf r13 r14 r15 r16 k
    rw [w_cpa (by omega), w_cpa (by omega), w_cpa (by omega), w_cpa (by omega), w_cpa (by omega), w_cpa (by omega), w_cpa (by omega), w_cpa (by omega), w_cpa (by omega), w_cpa (by omega), w_cpa (by omega), w_cpa (by omega), w_cpa (by omega), w_Ua (by omega), w_Ua (by omega), w_Ua (by omega), w_Ua (by omega)]
  · simp only [w_cpg, w_Ug, reduceIte, Nat.reduceEqDiff, Int.reduceEq, r13, r14, r15, r16, and_self]
  · clear k
    intro k h0 h1
    clear rf w
    simp only [Nat.reduceAdd, w_cpg, w_Ug, reduceIte, Nat.reduceEqDiff]
    simp (disch := omega) only [if_pos]
    rw [show (0 : Int) + (k - 0) = k by omega]
    exact ⟨rfl, rfl, rfl, rfl, rfl⟩
  · clear k
    intro k h0 h1
    clear rf w
    simp only [Nat.reduceAdd, w_cpg, w_Ug, reduceIte, Nat.reduceEqDiff]
    simp (disch := omega) only [if_pos]
    rw [show (0 : Int) + (k - 0) = k by omega]
    exact ⟨rfl, rfl, rfl, rfl⟩
  · clear k
    intro k h0 h1
    clear rf w
    simp only [Nat.reduceAdd, w_cpg, w_Ug, reduceIte, Nat.reduceEqDiff]
    simp (disch := omega) only [if_pos]
    rw [show (0 : Int) + (k - 0) = k by omega]
  · clear k
    intro k h0 h1
    clear rf w
    simp only [Nat.reduceAdd, w_cpg, w_Ug, reduceIte, Nat.reduceEqDiff]
    simp (disch := omega) only [if_pos]
    rw [show (0 : Int) + (k - 0) = k by omega]
    exact ⟨rfl, rfl, rfl⟩
theorem c4_50_20 (rf : c_rf 20 I s) (w : m_w0 s) (k : ∀ I', (∀ a, (a < 50 ∨ 63 < a) → I' a = I a) → c_rf 50 I' s → Q none I' J b) : w_C xs xl 4 [.ref 50, .ref 20] I J b Q := by
  have w0 := w.1
  have rf' := rf
  simp only [c_rf, Nat.reduceAdd] at rf'
  obtain ⟨r13, r14, r15, r16, -⟩ := rf'
  refine e4_50_20 (b4_0_50_20 ?_)
  rw [r13, r14, r15, r16]
  refine ⟨by omega, by omega, by omega, ?_⟩
  refine k _ (fun a ha => ?_) (c_rf_cp rf ?_ ?_ ?_ ?_ ?_)
  · clear w w0 rf r13 r14 r15 r16 k
    rw [w_cpa (by omega), w_cpa (by omega), w_cpa (by omega), w_cpa (by omega), w_cpa (by omega), w_cpa (by omega), w_cpa (by omega), w_cpa (by omega), w_cpa (by omega), w_cpa (by omega), w_cpa (by omega), w_cpa (by omega), w_cpa (by omega), w_Ua (by omega), w_Ua (by omega), w_Ua (by omega), w_Ua (by omega)]
  · simp only [w_cpg, w_Ug, reduceIte, Nat.reduceEqDiff, Int.reduceEq, r13, r14, r15, r16, and_self]
  · clear k
    intro k h0 h1
    clear rf w
    simp only [Nat.reduceAdd, w_cpg, w_Ug, reduceIte, Nat.reduceEqDiff]
    simp (disch := omega) only [if_pos]
    rw [show (0 : Int) + (k - 0) = k by omega]
    exact ⟨rfl, rfl, rfl, rfl, rfl⟩
  · clear k
    intro k h0 h1
    clear rf w
    simp only [Nat.reduceAdd, w_cpg, w_Ug, reduceIte, Nat.reduceEqDiff]
    simp (disch := omega) only [if_pos]
    rw [show (0 : Int) + (k - 0) = k by omega]
    exact ⟨rfl, rfl, rfl, rfl⟩
  · clear k
    intro k h0 h1
    clear rf w
    simp only [Nat.reduceAdd, w_cpg, w_Ug, reduceIte, Nat.reduceEqDiff]
    simp (disch := omega) only [if_pos]
    rw [show (0 : Int) + (k - 0) = k by omega]
  · clear k
    intro k h0 h1
    clear rf w
    simp only [Nat.reduceAdd, w_cpg, w_Ug, reduceIte, Nat.reduceEqDiff]
    simp (disch := omega) only [if_pos]
    rw [show (0 : Int) + (k - 0) = k by omega]
    exact ⟨rfl, rfl, rfl⟩
theorem c4_64_20 (rf : c_rf 20 I s) (w : m_w0 s) (k : ∀ I', (∀ a, (a < 64 ∨ 77 < a) → I' a = I a) → c_rf 64 I' s → Q none I' J b) : w_C xs xl 4 [.ref 64, .ref 20] I J b Q := by
  have w0 := w.1
  have rf' := rf
  simp only [c_rf, Nat.reduceAdd] at rf'
  obtain ⟨r13, r14, r15, r16, -⟩ := rf'
  refine e4_64_20 (b4_0_64_20 ?_)
  rw [r13, r14, r15, r16]
  refine ⟨by omega, by omega, by omega, ?_⟩
  refine k _ (fun a ha => ?_) (c_rf_cp rf ?_ ?_ ?_ ?_ ?_)
  · clear w w0 rf r13 r14 r15 r16 k
    rw [w_cpa (by omega), w_cpa (by omega), w_cpa (by omega), w_cpa (by omega), w_cpa (by omega), w_cpa (by omega), w_cpa (by omega), w_cpa (by omega), w_cpa (by omega), w_cpa (by omega), w_cpa (by omega), w_cpa (by omega), w_cpa (by omega), w_Ua (by omega), w_Ua (by omega), w_Ua (by omega), w_Ua (by omega)]
  · simp only [w_cpg, w_Ug, reduceIte, Nat.reduceEqDiff, Int.reduceEq, r13, r14, r15, r16, and_self]
  · clear k
    intro k h0 h1
    clear rf w
    simp only [Nat.reduceAdd, w_cpg, w_Ug, reduceIte, Nat.reduceEqDiff]
    simp (disch := omega) only [if_pos]
    rw [show (0 : Int) + (k - 0) = k by omega]
    exact ⟨rfl, rfl, rfl, rfl, rfl⟩
  · clear k
    intro k h0 h1
    clear rf w
    simp only [Nat.reduceAdd, w_cpg, w_Ug, reduceIte, Nat.reduceEqDiff]
    simp (disch := omega) only [if_pos]
    rw [show (0 : Int) + (k - 0) = k by omega]
    exact ⟨rfl, rfl, rfl, rfl⟩
  · clear k
    intro k h0 h1
    clear rf w
    simp only [Nat.reduceAdd, w_cpg, w_Ug, reduceIte, Nat.reduceEqDiff]
    simp (disch := omega) only [if_pos]
    rw [show (0 : Int) + (k - 0) = k by omega]
  · clear k
    intro k h0 h1
    clear rf w
    simp only [Nat.reduceAdd, w_cpg, w_Ug, reduceIte, Nat.reduceEqDiff]
    simp (disch := omega) only [if_pos]
    rw [show (0 : Int) + (k - 0) = k by omega]
    exact ⟨rfl, rfl, rfl⟩
theorem c4_20_50 (rf : c_rf 50 I s) (w : m_w0 s) (k : ∀ I', (∀ a, (a < 20 ∨ 33 < a) → I' a = I a) → c_rf 20 I' s → Q none I' J b) : w_C xs xl 4 [.ref 20, .ref 50] I J b Q := by
  have w0 := w.1
  have rf' := rf
  simp only [c_rf, Nat.reduceAdd] at rf'
  obtain ⟨r13, r14, r15, r16, -⟩ := rf'
  refine e4_20_50 (b4_0_20_50 ?_)
  rw [r13, r14, r15, r16]
  refine ⟨by omega, by omega, by omega, ?_⟩
  refine k _ (fun a ha => ?_) (c_rf_cp rf ?_ ?_ ?_ ?_ ?_)
  · clear w w0 rf r13 r14 r15 r16 k
    rw [w_cpa (by omega), w_cpa (by omega), w_cpa (by omega), w_cpa (by omega), w_cpa (by omega), w_cpa (by omega), w_cpa (by omega), w_cpa (by omega), w_cpa (by omega), w_cpa (by omega), w_cpa (by omega), w_cpa (by omega), w_cpa (by omega), w_Ua (by omega), w_Ua (by omega), w_Ua (by omega), w_Ua (by omega)]
  · simp only [w_cpg, w_Ug, reduceIte, Nat.reduceEqDiff, Int.reduceEq, r13, r14, r15, r16, and_self]
  · clear k
    intro k h0 h1
    clear rf w
    simp only [Nat.reduceAdd, w_cpg, w_Ug, reduceIte, Nat.reduceEqDiff]
    simp (disch := omega) only [if_pos]
    rw [show (0 : Int) + (k - 0) = k by omega]
    exact ⟨rfl, rfl, rfl, rfl, rfl⟩
  · clear k
    intro k h0 h1
    clear rf w
    simp only [Nat.reduceAdd, w_cpg, w_Ug, reduceIte, Nat.reduceEqDiff]
    simp (disch := omega) only [if_pos]
    rw [show (0 : Int) + (k - 0) = k by omega]
    exact ⟨rfl, rfl, rfl, rfl⟩
  · clear k
    intro k h0 h1
    clear rf w
    simp only [Nat.reduceAdd, w_cpg, w_Ug, reduceIte, Nat.reduceEqDiff]
    simp (disch := omega) only [if_pos]
    rw [show (0 : Int) + (k - 0) = k by omega]
  · clear k
    intro k h0 h1
    clear rf w
    simp only [Nat.reduceAdd, w_cpg, w_Ug, reduceIte, Nat.reduceEqDiff]
    simp (disch := omega) only [if_pos]
    rw [show (0 : Int) + (k - 0) = k by omega]
    exact ⟨rfl, rfl, rfl⟩
theorem c4_20_64 (rf : c_rf 64 I s) (w : m_w0 s) (k : ∀ I', (∀ a, (a < 20 ∨ 33 < a) → I' a = I a) → c_rf 20 I' s → Q none I' J b) : w_C xs xl 4 [.ref 20, .ref 64] I J b Q := by
  have w0 := w.1
  have rf' := rf
  simp only [c_rf, Nat.reduceAdd] at rf'
  obtain ⟨r13, r14, r15, r16, -⟩ := rf'
  refine e4_20_64 (b4_0_20_64 ?_)
  rw [r13, r14, r15, r16]
  refine ⟨by omega, by omega, by omega, ?_⟩
  refine k _ (fun a ha => ?_) (c_rf_cp rf ?_ ?_ ?_ ?_ ?_)
  · clear w w0 rf r13 r14 r15 r16 k
    rw [w_cpa (by omega), w_cpa (by omega), w_cpa (by omega), w_cpa (by omega), w_cpa (by omega), w_cpa (by omega), w_cpa (by omega), w_cpa (by omega), w_cpa (by omega), w_cpa (by omega), w_cpa (by omega), w_cpa (by omega), w_cpa (by omega), w_Ua (by omega), w_Ua (by omega), w_Ua (by omega), w_Ua (by omega)]
  · simp only [w_cpg, w_Ug, reduceIte, Nat.reduceEqDiff, Int.reduceEq, r13, r14, r15, r16, and_self]
  · clear k
    intro k h0 h1
    clear rf w
    simp only [Nat.reduceAdd, w_cpg, w_Ug, reduceIte, Nat.reduceEqDiff]
    simp (disch := omega) only [if_pos]
    rw [show (0 : Int) + (k - 0) = k by omega]
    exact ⟨rfl, rfl, rfl, rfl, rfl⟩
  · clear k
    intro k h0 h1
    clear rf w
    simp only [Nat.reduceAdd, w_cpg, w_Ug, reduceIte, Nat.reduceEqDiff]
    simp (disch := omega) only [if_pos]
    rw [show (0 : Int) + (k - 0) = k by omega]
    exact ⟨rfl, rfl, rfl, rfl⟩
  · clear k
    intro k h0 h1
    clear rf w
    simp only [Nat.reduceAdd, w_cpg, w_Ug, reduceIte, Nat.reduceEqDiff]
    simp (disch := omega) only [if_pos]
    rw [show (0 : Int) + (k - 0) = k by omega]
  · clear k
    intro k h0 h1
    clear rf w
    simp only [Nat.reduceAdd, w_cpg, w_Ug, reduceIte, Nat.reduceEqDiff]
    simp (disch := omega) only [if_pos]
    rw [show (0 : Int) + (k - 0) = k by omega]
    exact ⟨rfl, rfl, rfl⟩
end
