section
theorem e257 {xs : Nat → Int32} {xl : Nat} {I J : w_I} {b : Bool} {Q : Option Value → w_I → w_I → Bool → Prop} {a1 a2 : Int} (t : w_T xs xl 257 0 [some (.ref 104), some (w_i a1), some (w_i a2), none, none] [] [] I J b Q) : w_C xs xl 257 [.ref 104, w_i a1, w_i a2] I J b Q := w_en rfl t
theorem b257_0 {xs : Nat → Int32} {xl : Nat} {I J : w_I} {b : Bool} {Q : Option Value → w_I → w_I → Bool → Prop} {a1 a2 : Int} (k : w_T xs xl 257 7 [some (.ref 104), some (w_i a1), some (w_i a2), some (w_i 0), none] [] [] (w_U I 104 50 0) J b Q) : w_T xs xl 257 0 [some (.ref 104), some (w_i a1), some (w_i a2), none, none] [] [] I J b Q := by
  refine w_aload_n (q := 1) rfl rfl rfl ?_
  refine w_iconst (q := 2) rfl rfl ?_
  refine w_pfi (q := 5) (k' := 50) rfl rfl rfl rfl ?_
  refine w_iconst (q := 6) rfl rfl ?_
  refine w_istore_n (q := 7) (L' := [some (.ref 104), some (w_i a1), some (w_i a2), some (w_i 0), none]) (M' := []) rfl rfl rfl rfl rfl ?_
  exact k
theorem b257_7 {xs : Nat → Int32} {xl : Nat} {I J : w_I} {b : Bool} {Q : Option Value → w_I → w_I → Bool → Prop} {l1 l2 l3 : Int} {u4 : Option Value} (k : ((-2147483648 ≤ l3 ∧ l3 < 2147483648) ∧ (-2147483648 ≤ I 110 0 ∧ I 110 0 < 2147483648) ∧ ((I 110 0 ≤ l3 → w_T xs xl 257 66 [some (.ref 104), some (w_i l1), some (w_i l2), some (w_i 0), u4] [] [] (w_U I 104 36 0) J b Q) ∧ (¬ I 110 0 ≤ l3 → ((0 ≤ 20 + l3 ∧ 20 + l3 < 2800) ∧ ((-2147483648 ≤ I 110 (20 + l3) ∧ I 110 (20 + l3) < 2147483648) ∧ (-2147483648 ≤ l2 ∧ l2 < 2147483648) ∧ ((I 110 (20 + l3) = l2 → ((0 ≤ I 104 50 ∧ I 104 50 < 24) ∧ w_T xs xl 257 7 [some (.ref 104), some (w_i l1), some (w_i l2), some (w_i (l3 + 1)), u4] [] [] (w_U (w_U I 137 (I 104 50) l3) 104 50 (I 104 50 + 1)) J b Q)) ∧ (¬ I 110 (20 + l3) = l2 → w_T xs xl 257 7 [some (.ref 104), some (w_i l1), some (w_i l2), some (w_i (l3 + 1)), u4] [] [] I J b Q)))))))) : w_T xs xl 257 7 [some (.ref 104), some (w_i l1), some (w_i l2), some (w_i l3), u4] [] [] I J b Q := by
  refine w_iload_n (q := 8) rfl rfl rfl ?_
  refine w_aload_n (q := 9) rfl rfl rfl ?_
  refine w_gfr (q := 12) rfl rfl rfl rfl (j := 110) rfl ?_
  refine w_iconst (q := 13) rfl rfl ?_
  refine w_iald (q := 14) (n := 2800) (v := I 110 0) rfl rfl rfl rfl rfl rfl (by decide) ?_
  obtain ⟨h1, h2, k⟩ := k
  refine w_cge (t := 59) (q := 17) rfl rfl rfl h1 h2 (fun c3 => ?_) (fun c3 => ?_)
  · replace k := k.1 c3
    refine w_aload_n (q := 60) rfl rfl rfl ?_
    refine w_iconst (q := 61) rfl rfl ?_
    refine w_pfi (q := 64) (k' := 36) rfl rfl rfl rfl ?_
    refine w_iconst (q := 65) rfl rfl ?_
    refine w_istore_n (q := 66) (L' := [some (.ref 104), some (w_i l1), some (w_i l2), some (w_i 0), u4]) (M' := []) rfl rfl rfl rfl rfl ?_
    exact k
  · replace k := k.2 c3
    refine w_aload_n (q := 18) rfl rfl rfl ?_
    refine w_gfr (q := 21) rfl rfl rfl rfl (j := 110) rfl ?_
    refine w_bipush (q := 23) rfl rfl rfl ?_
    refine w_iload_n (q := 24) rfl rfl rfl ?_
    refine w_iadd (q := 25) rfl rfl ?_
    obtain ⟨h4, k⟩ := k
    refine w_iald (q := 26) (n := 2800) (v := I 110 (20 + l3)) rfl rfl rfl rfl rfl rfl h4 ?_
    refine w_iload_n (q := 27) rfl rfl rfl ?_
    obtain ⟨h5, h6, k⟩ := k
    refine w_ceq (t := 33) (q := 30) rfl rfl rfl h5 h6 (fun c7 => ?_) (fun c7 => ?_)
    · replace k := k.1 c7
      refine w_aload_n (q := 34) rfl rfl rfl ?_
      refine w_gfr (q := 37) rfl rfl rfl rfl (j := 137) rfl ?_
      refine w_aload_n (q := 38) rfl rfl rfl ?_
      refine w_gfi (q := 41) (k' := 50) (v := I 104 50) rfl rfl rfl rfl rfl rfl rfl ?_
      refine w_iload_n (q := 42) rfl rfl rfl ?_
      obtain ⟨h8, k⟩ := k
      refine w_iast (q := 43) (n := 24) rfl rfl rfl rfl rfl h8 ?_
      refine w_aload_n (q := 44) rfl rfl rfl ?_
      refine w_dup (q := 45) rfl rfl rfl ?_
      refine w_gfi (q := 48) (k' := 50) (v := I 104 50) rfl rfl rfl rfl rfl rfl rfl ?_
      refine w_iconst (q := 49) rfl rfl ?_
      refine w_iadd (q := 50) rfl rfl ?_
      refine w_pfi (q := 53) (k' := 50) rfl rfl rfl rfl ?_
      refine w_iinc (q := 56) (L' := [some (.ref 104), some (w_i l1), some (w_i l2), some (w_i (l3 + 1)), u4]) (M' := []) rfl rfl rfl rfl rfl rfl ?_
      refine w_goto (t := 7) rfl rfl ?_
      exact k
    · replace k := k.2 c7
      refine w_goto (t := 53) rfl rfl ?_
      refine w_iinc (q := 56) (L' := [some (.ref 104), some (w_i l1), some (w_i l2), some (w_i (l3 + 1)), u4]) (M' := []) rfl rfl rfl rfl rfl rfl ?_
      refine w_goto (t := 7) rfl rfl ?_
      exact k
theorem b257_66 {xs : Nat → Int32} {xl : Nat} {I J : w_I} {b : Bool} {Q : Option Value → w_I → w_I → Bool → Prop} {l1 l3 : Int} {u2 u4 : Option Value} (k : ((-2147483648 ≤ l3 ∧ l3 < 2147483648) ∧ (-2147483648 ≤ I 104 46 ∧ I 104 46 < 2147483648) ∧ ((I 104 46 ≤ l3 → ((-2147483648 ≤ I 104 36 ∧ I 104 36 < 2147483648) ∧ (-2147483648 ≤ I 104 50 ∧ I 104 50 < 2147483648) ∧ ((I 104 36 ≤ I 104 50 → w_T xs xl 257 186 [some (.ref 104), some (w_i l1), u2, some (w_i 0), some (w_i 0)] [] [] I J b Q) ∧ (¬ I 104 36 ≤ I 104 50 → Q (some (w_i 100000000)) I J b)))) ∧ (¬ I 104 46 ≤ l3 → ((0 ≤ l3 ∧ l3 < 24) ∧ ((-2147483648 ≤ w_and (w_shr l1 (I 136 l3)) 1 ∧ w_and (w_shr l1 (I 136 l3)) 1 < 2147483648) ∧ ((¬ w_and (w_shr l1 (I 136 l3)) 1 = 0 → ((0 ≤ I 104 36 ∧ I 104 36 < 32) ∧ w_T xs xl 257 103 [some (.ref 104), some (w_i l1), u2, some (w_i l3), some (w_i 0)] [] [] (w_U I 128 (I 104 36) (-1)) J b Q)) ∧ (w_and (w_shr l1 (I 136 l3)) 1 = 0 → w_T xs xl 257 66 [some (.ref 104), some (w_i l1), u2, some (w_i (l3 + 1)), u4] [] [] I J b Q)))))))) : w_T xs xl 257 66 [some (.ref 104), some (w_i l1), u2, some (w_i l3), u4] [] [] I J b Q := by
  refine w_iload_n (q := 67) rfl rfl rfl ?_
  refine w_aload_n (q := 68) rfl rfl rfl ?_
  refine w_gfi (q := 71) (k' := 46) (v := I 104 46) rfl rfl rfl rfl rfl rfl rfl ?_
  obtain ⟨h1, h2, k⟩ := k
  refine w_cge (t := 166) (q := 74) rfl rfl rfl h1 h2 (fun c3 => ?_) (fun c3 => ?_)
  · replace k := k.1 c3
    refine w_aload_n (q := 167) rfl rfl rfl ?_
    refine w_gfi (q := 170) (k' := 36) (v := I 104 36) rfl rfl rfl rfl rfl rfl rfl ?_
    refine w_aload_n (q := 171) rfl rfl rfl ?_
    refine w_gfi (q := 174) (k' := 50) (v := I 104 50) rfl rfl rfl rfl rfl rfl rfl ?_
    obtain ⟨h4, h5, k⟩ := k
    refine w_cle (t := 181) (q := 177) rfl rfl rfl h4 h5 (fun c6 => ?_) (fun c6 => ?_)
    · replace k := k.1 c6
      refine w_iconst (q := 182) rfl rfl ?_
      refine w_istore_n (q := 183) (L' := [some (.ref 104), some (w_i l1), u2, some (w_i 0), u4]) (M' := []) rfl rfl rfl rfl rfl ?_
      refine w_iconst (q := 184) rfl rfl ?_
      refine w_istore (q := 186) (L' := [some (.ref 104), some (w_i l1), u2, some (w_i 0), some (w_i 0)]) (M' := []) rfl rfl rfl rfl rfl ?_
      exact k
    · replace k := k.2 c6
      refine w_ldc_w (q := 180) (n := 100000000) rfl rfl rfl ?_
      exact w_iret rfl rfl k
  · replace k := k.2 c3
    refine w_iload_n (q := 75) rfl rfl rfl ?_
    refine w_aload_n (q := 76) rfl rfl rfl ?_
    refine w_gfr (q := 79) rfl rfl rfl rfl (j := 136) rfl ?_
    refine w_iload_n (q := 80) rfl rfl rfl ?_
    obtain ⟨h7, k⟩ := k
    refine w_iald (q := 81) (n := 24) (v := I 136 l3) rfl rfl rfl rfl rfl rfl h7 ?_
    refine w_ishr (q := 82) rfl rfl ?_
    refine w_iconst (q := 83) rfl rfl ?_
    refine w_iand (q := 84) rfl rfl ?_
    obtain ⟨h8, k⟩ := k
    refine w_zne (t := 90) (q := 87) rfl rfl rfl h8 (fun c9 => ?_) (fun c9 => ?_)
    · replace k := k.1 c9
      refine w_aload_n (q := 91) rfl rfl rfl ?_
      refine w_gfr (q := 94) rfl rfl rfl rfl (j := 128) rfl ?_
      refine w_aload_n (q := 95) rfl rfl rfl ?_
      refine w_gfi (q := 98) (k' := 36) (v := I 104 36) rfl rfl rfl rfl rfl rfl rfl ?_
      refine w_iconst (q := 99) rfl rfl ?_
      obtain ⟨h10, k⟩ := k
      refine w_iast (q := 100) (n := 32) rfl rfl rfl rfl rfl h10 ?_
      refine w_iconst (q := 101) rfl rfl ?_
      refine w_istore (q := 103) (L' := [some (.ref 104), some (w_i l1), u2, some (w_i l3), some (w_i 0)]) (M' := []) rfl rfl rfl rfl rfl ?_
      exact k
    · replace k := k.2 c9
      refine w_goto (t := 160) rfl rfl ?_
      refine w_iinc (q := 163) (L' := [some (.ref 104), some (w_i l1), u2, some (w_i (l3 + 1)), u4]) (M' := []) rfl rfl rfl rfl rfl rfl ?_
      refine w_goto (t := 66) rfl rfl ?_
      exact k
theorem b257_186 {xs : Nat → Int32} {xl : Nat} {I J : w_I} {b : Bool} {Q : Option Value → w_I → w_I → Bool → Prop} {u1 u2 : Option Value} {l3 l4 : Int} (k : ((-2147483648 ≤ l4 ∧ l4 < 2147483648) ∧ (-2147483648 ≤ I 104 36 ∧ I 104 36 < 2147483648) ∧ ((I 104 36 ≤ l4 → w_C xs xl 243 [.ref 104, w_i (I 104 50), w_i 0] I J b (fun v Ic Jc bc => w_T xs xl 257 228 [some (.ref 104), u1, u2, some (w_i l3), some (w_i l4)] [] (w_pv v []) Ic Jc bc Q)) ∧ (¬ I 104 36 ≤ l4 → ((0 ≤ l4 ∧ l4 < 32) ∧ ((-2147483648 ≤ I 128 l4 ∧ I 128 l4 < 2147483648) ∧ ((0 ≤ I 128 l4 → w_T xs xl 257 186 [some (.ref 104), u1, u2, some (w_i (l3 + 0)), some (w_i (l4 + 1))] [] [] I J b Q) ∧ (¬ 0 ≤ I 128 l4 → w_T xs xl 257 186 [some (.ref 104), u1, u2, some (w_i (l3 + 1)), some (w_i (l4 + 1))] [] [] I J b Q)))))))) : w_T xs xl 257 186 [some (.ref 104), u1, u2, some (w_i l3), some (w_i l4)] [] [] I J b Q := by
  refine w_iload (q := 188) rfl rfl rfl ?_
  refine w_aload_n (q := 189) rfl rfl rfl ?_
  refine w_gfi (q := 192) (k' := 36) (v := I 104 36) rfl rfl rfl rfl rfl rfl rfl ?_
  obtain ⟨h1, h2, k⟩ := k
  refine w_cge (t := 219) (q := 195) rfl rfl rfl h1 h2 (fun c3 => ?_) (fun c3 => ?_)
  · replace k := k.1 c3
    refine w_aload_n (q := 220) rfl rfl rfl ?_
    refine w_aload_n (q := 221) rfl rfl rfl ?_
    refine w_gfi (q := 224) (k' := 50) (v := I 104 50) rfl rfl rfl rfl rfl rfl rfl ?_
    refine w_iconst (q := 225) rfl rfl ?_
    refine w_callv (q := 228) rfl rfl rfl rfl rfl rfl ?_
    exact k
  · replace k := k.2 c3
    refine w_iload_n (q := 196) rfl rfl rfl ?_
    refine w_aload_n (q := 197) rfl rfl rfl ?_
    refine w_gfr (q := 200) rfl rfl rfl rfl (j := 128) rfl ?_
    refine w_iload (q := 202) rfl rfl rfl ?_
    obtain ⟨h4, k⟩ := k
    refine w_iald (q := 203) (n := 32) (v := I 128 l4) rfl rfl rfl rfl rfl rfl h4 ?_
    obtain ⟨h5, k⟩ := k
    refine w_zge (t := 210) (q := 206) rfl rfl rfl h5 (fun c6 => ?_) (fun c6 => ?_)
    · replace k := k.1 c6
      refine w_iconst (q := 211) rfl rfl ?_
      refine w_iadd (q := 212) rfl rfl ?_
      refine w_istore_n (q := 213) (L' := [some (.ref 104), u1, u2, some (w_i (l3 + 0)), some (w_i l4)]) (M' := []) rfl rfl rfl rfl rfl ?_
      refine w_iinc (q := 216) (L' := [some (.ref 104), u1, u2, some (w_i (l3 + 0)), some (w_i (l4 + 1))]) (M' := []) rfl rfl rfl rfl rfl rfl ?_
      refine w_goto (t := 186) rfl rfl ?_
      exact k
    · replace k := k.2 c6
      refine w_iconst (q := 207) rfl rfl ?_
      refine w_goto (t := 211) rfl rfl ?_
      refine w_iadd (q := 212) rfl rfl ?_
      refine w_istore_n (q := 213) (L' := [some (.ref 104), u1, u2, some (w_i (l3 + 1)), some (w_i l4)]) (M' := []) rfl rfl rfl rfl rfl ?_
      refine w_iinc (q := 216) (L' := [some (.ref 104), u1, u2, some (w_i (l3 + 1)), some (w_i (l4 + 1))]) (M' := []) rfl rfl rfl rfl rfl rfl ?_
      refine w_goto (t := 186) rfl rfl ?_
      exact k
theorem b257_103 {xs : Nat → Int32} {xl : Nat} {I J : w_I} {b : Bool} {Q : Option Value → w_I → w_I → Bool → Prop} {l1 l3 l4 : Int} {u2 : Option Value} (k : ((-2147483648 ≤ l4 ∧ l4 < 2147483648) ∧ (-2147483648 ≤ I 104 50 ∧ I 104 50 < 2147483648) ∧ ((I 104 50 ≤ l4 → w_T xs xl 257 66 [some (.ref 104), some (w_i l1), u2, some (w_i (l3 + 1)), some (w_i l4)] [] [] (w_U I 104 36 (I 104 36 + 1)) J b Q) ∧ (¬ I 104 50 ≤ l4 → ((0 ≤ l4 ∧ l4 < 24) ∧ ((0 ≤ l3 ∧ l3 < 24) ∧ ((0 ≤ I 136 l3 ∧ I 136 l3 < 24) ∧ ((-2147483648 ≤ I 137 l4 ∧ I 137 l4 < 2147483648) ∧ (-2147483648 ≤ I 134 (I 136 l3) ∧ I 134 (I 136 l3) < 2147483648) ∧ ((¬ I 137 l4 = I 134 (I 136 l3) → w_T xs xl 257 103 [some (.ref 104), some (w_i l1), u2, some (w_i l3), some (w_i (l4 + 1))] [] [] I J b Q) ∧ (I 137 l4 = I 134 (I 136 l3) → ((0 ≤ I 104 36 ∧ I 104 36 < 32) ∧ w_T xs xl 257 103 [some (.ref 104), some (w_i l1), u2, some (w_i l3), some (w_i (l4 + 1))] [] [] (w_U I 128 (I 104 36) l4) J b Q))))))))))) : w_T xs xl 257 103 [some (.ref 104), some (w_i l1), u2, some (w_i l3), some (w_i l4)] [] [] I J b Q := by
  refine w_iload (q := 105) rfl rfl rfl ?_
  refine w_aload_n (q := 106) rfl rfl rfl ?_
  refine w_gfi (q := 109) (k' := 50) (v := I 104 50) rfl rfl rfl rfl rfl rfl rfl ?_
  obtain ⟨h1, h2, k⟩ := k
  refine w_cge (t := 150) (q := 112) rfl rfl rfl h1 h2 (fun c3 => ?_) (fun c3 => ?_)
  · replace k := k.1 c3
    refine w_aload_n (q := 151) rfl rfl rfl ?_
    refine w_dup (q := 152) rfl rfl rfl ?_
    refine w_gfi (q := 155) (k' := 36) (v := I 104 36) rfl rfl rfl rfl rfl rfl rfl ?_
    refine w_iconst (q := 156) rfl rfl ?_
    refine w_iadd (q := 157) rfl rfl ?_
    refine w_pfi (q := 160) (k' := 36) rfl rfl rfl rfl ?_
    refine w_iinc (q := 163) (L' := [some (.ref 104), some (w_i l1), u2, some (w_i (l3 + 1)), some (w_i l4)]) (M' := []) rfl rfl rfl rfl rfl rfl ?_
    refine w_goto (t := 66) rfl rfl ?_
    exact k
  · replace k := k.2 c3
    refine w_aload_n (q := 113) rfl rfl rfl ?_
    refine w_gfr (q := 116) rfl rfl rfl rfl (j := 137) rfl ?_
    refine w_iload (q := 118) rfl rfl rfl ?_
    obtain ⟨h4, k⟩ := k
    refine w_iald (q := 119) (n := 24) (v := I 137 l4) rfl rfl rfl rfl rfl rfl h4 ?_
    refine w_aload_n (q := 120) rfl rfl rfl ?_
    refine w_gfr (q := 123) rfl rfl rfl rfl (j := 134) rfl ?_
    refine w_aload_n (q := 124) rfl rfl rfl ?_
    refine w_gfr (q := 127) rfl rfl rfl rfl (j := 136) rfl ?_
    refine w_iload_n (q := 128) rfl rfl rfl ?_
    obtain ⟨h5, k⟩ := k
    refine w_iald (q := 129) (n := 24) (v := I 136 l3) rfl rfl rfl rfl rfl rfl h5 ?_
    obtain ⟨h6, k⟩ := k
    refine w_iald (q := 130) (n := 24) (v := I 134 (I 136 l3)) rfl rfl rfl rfl rfl rfl h6 ?_
    obtain ⟨h7, h8, k⟩ := k
    refine w_cne (t := 144) (q := 133) rfl rfl rfl h7 h8 (fun c9 => ?_) (fun c9 => ?_)
    · replace k := k.1 c9
      refine w_iinc (q := 147) (L' := [some (.ref 104), some (w_i l1), u2, some (w_i l3), some (w_i (l4 + 1))]) (M' := []) rfl rfl rfl rfl rfl rfl ?_
      refine w_goto (t := 103) rfl rfl ?_
      exact k
    · replace k := k.2 c9
      refine w_aload_n (q := 134) rfl rfl rfl ?_
      refine w_gfr (q := 137) rfl rfl rfl rfl (j := 128) rfl ?_
      refine w_aload_n (q := 138) rfl rfl rfl ?_
      refine w_gfi (q := 141) (k' := 36) (v := I 104 36) rfl rfl rfl rfl rfl rfl rfl ?_
      refine w_iload (q := 143) rfl rfl rfl ?_
      obtain ⟨h10, k⟩ := k
      refine w_iast (q := 144) (n := 32) rfl rfl rfl rfl rfl h10 ?_
      refine w_iinc (q := 147) (L' := [some (.ref 104), some (w_i l1), u2, some (w_i l3), some (w_i (l4 + 1))]) (M' := []) rfl rfl rfl rfl rfl rfl ?_
      refine w_goto (t := 103) rfl rfl ?_
      exact k
theorem b257_228 {xs : Nat → Int32} {xl : Nat} {I J : w_I} {b : Bool} {Q : Option Value → w_I → w_I → Bool → Prop} {u1 u2 u4 : Option Value} {l3 s0 : Int} (k : (((0 : Int) ≤ s0 ∧ s0 < 2147483648 ∧ (0 : Int) < 1000000 ∧ 1000000 < (2147483648 : Int)) ∧ Q (some (w_i (s0 / 1000000 + l3))) I J b)) : w_T xs xl 257 228 [some (.ref 104), u1, u2, some (w_i l3), u4] [] [w_i s0] I J b Q := by
  refine w_ldc_w (q := 231) (n := 1000000) rfl rfl rfl ?_
  obtain ⟨h1, k⟩ := k
  refine w_idiv (q := 232) rfl rfl h1 ?_
  refine w_iload_n (q := 233) rfl rfl rfl ?_
  refine w_iadd (q := 234) rfl rfl ?_
  exact w_iret rfl rfl k
theorem e258 {xs : Nat → Int32} {xl : Nat} {I J : w_I} {b : Bool} {Q : Option Value → w_I → w_I → Bool → Prop} (t : w_T xs xl 258 0 [some (.ref 104), none, none, none, none, none] [] [] I J b Q) : w_C xs xl 258 [.ref 104] I J b Q := w_en rfl t
theorem b258_0 {xs : Nat → Int32} {xl : Nat} {I J : w_I} {b : Bool} {Q : Option Value → w_I → w_I → Bool → Prop} (k : w_C xs xl 256 [.ref 104] I J b (fun v Ic Jc bc => w_T xs xl 258 4 [some (.ref 104), none, none, none, none, none] [] (w_pv v []) Ic Jc bc Q)) : w_T xs xl 258 0 [some (.ref 104), none, none, none, none, none] [] [] I J b Q := by
  refine w_aload_n (q := 1) rfl rfl rfl ?_
  refine w_callv (q := 4) rfl rfl rfl rfl rfl rfl ?_
  exact k
theorem b258_4 {xs : Nat → Int32} {xl : Nat} {I J : w_I} {b : Bool} {Q : Option Value → w_I → w_I → Bool → Prop} {u1 u2 u3 u4 u5 : Option Value} (k : ((-2147483648 ≤ I 104 46 ∧ I 104 46 < 2147483648) ∧ ((I 104 46 ≤ 12 → w_T xs xl 258 26 [some (.ref 104), some (w_i (-2)), some (w_i 0), u3, u4, u5] [] [] (w_U I 104 52 0) J b Q) ∧ (¬ I 104 46 ≤ 12 → Q (some (w_i (-2))) I J b)))) : w_T xs xl 258 4 [some (.ref 104), u1, u2, u3, u4, u5] [] [] I J b Q := by
  refine w_aload_n (q := 5) rfl rfl rfl ?_
  refine w_gfi (q := 8) (k' := 46) (v := I 104 46) rfl rfl rfl rfl rfl rfl rfl ?_
  refine w_bipush (q := 10) rfl rfl rfl ?_
  obtain ⟨h1, k⟩ := k
  refine w_cle (t := 16) (q := 13) rfl rfl rfl h1 (by decide) (fun c2 => ?_) (fun c2 => ?_)
  · replace k := k.1 c2
    refine w_bipush (q := 18) rfl rfl rfl ?_
    refine w_istore_n (q := 19) (L' := [some (.ref 104), some (w_i (-2)), u2, u3, u4, u5]) (M' := []) rfl rfl rfl rfl rfl ?_
    refine w_aload_n (q := 20) rfl rfl rfl ?_
    refine w_iconst (q := 21) rfl rfl ?_
    refine w_pfi (q := 24) (k' := 52) rfl rfl rfl rfl ?_
    refine w_iconst (q := 25) rfl rfl ?_
    refine w_istore_n (q := 26) (L' := [some (.ref 104), some (w_i (-2)), some (w_i 0), u3, u4, u5]) (M' := []) rfl rfl rfl rfl rfl ?_
    exact k
  · replace k := k.2 c2
    refine w_bipush (q := 15) rfl rfl rfl ?_
    exact w_iret rfl rfl k
theorem b258_26 {xs : Nat → Int32} {xl : Nat} {I J : w_I} {b : Bool} {Q : Option Value → w_I → w_I → Bool → Prop} {l1 l2 : Int} {u3 u4 u5 : Option Value} (k : ((-2147483648 ≤ l2 ∧ l2 < 2147483648) ∧ (-2147483648 ≤ w_shl 1 (I 104 46) ∧ w_shl 1 (I 104 46) < 2147483648) ∧ ((w_shl 1 (I 104 46) ≤ l2 → Q (some (w_i l1)) I J b) ∧ (¬ w_shl 1 (I 104 46) ≤ l2 → w_C xs xl 257 [.ref 104, w_i l2, w_i 1] I J b (fun v Ic Jc bc => w_T xs xl 258 42 [some (.ref 104), some (w_i l1), some (w_i l2), u3, u4, u5] [] (w_pv v []) Ic Jc bc Q))))) : w_T xs xl 258 26 [some (.ref 104), some (w_i l1), some (w_i l2), u3, u4, u5] [] [] I J b Q := by
  refine w_iload_n (q := 27) rfl rfl rfl ?_
  refine w_iconst (q := 28) rfl rfl ?_
  refine w_aload_n (q := 29) rfl rfl rfl ?_
  refine w_gfi (q := 32) (k' := 46) (v := I 104 46) rfl rfl rfl rfl rfl rfl rfl ?_
  refine w_ishl (q := 33) rfl rfl ?_
  obtain ⟨h1, h2, k⟩ := k
  refine w_cge (t := 136) (q := 36) rfl rfl rfl h1 h2 (fun c3 => ?_) (fun c3 => ?_)
  · replace k := k.1 c3
    refine w_iload_n (q := 137) rfl rfl rfl ?_
    exact w_iret rfl rfl k
  · replace k := k.2 c3
    refine w_aload_n (q := 37) rfl rfl rfl ?_
    refine w_iload_n (q := 38) rfl rfl rfl ?_
    refine w_iconst (q := 39) rfl rfl ?_
    refine w_callv (q := 42) rfl rfl rfl rfl rfl rfl ?_
    exact k
theorem b258_42 {xs : Nat → Int32} {xl : Nat} {I J : w_I} {b : Bool} {Q : Option Value → w_I → w_I → Bool → Prop} {l1 l2 s0 : Int} {u3 u4 u5 : Option Value} (k : ((-2147483648 ≤ s0 ∧ s0 < 2147483648) ∧ ((s0 < 100000000 → w_C xs xl 257 [.ref 104, w_i (w_and (w_shl 1 (I 104 46) - 1) (w_xor l2 (-1))), w_i 2] I J b (fun v Ic Jc bc => w_T xs xl 258 70 [some (.ref 104), some (w_i l1), some (w_i l2), some (w_i s0), u4, u5] [] (w_pv v []) Ic Jc bc Q)) ∧ (¬ s0 < 100000000 → w_T xs xl 258 26 [some (.ref 104), some (w_i l1), some (w_i (l2 + 1)), some (w_i s0), u4, u5] [] [] I J b Q)))) : w_T xs xl 258 42 [some (.ref 104), some (w_i l1), some (w_i l2), u3, u4, u5] [] [w_i s0] I J b Q := by
  refine w_istore_n (q := 43) (L' := [some (.ref 104), some (w_i l1), some (w_i l2), some (w_i s0), u4, u5]) (M' := []) rfl rfl rfl rfl rfl ?_
  refine w_iload_n (q := 44) rfl rfl rfl ?_
  refine w_ldc_w (q := 47) (n := 100000000) rfl rfl rfl ?_
  obtain ⟨h1, k⟩ := k
  refine w_clt (t := 53) (q := 50) rfl rfl rfl h1 (by decide) (fun c2 => ?_) (fun c2 => ?_)
  · replace k := k.1 c2
    refine w_aload_n (q := 54) rfl rfl rfl ?_
    refine w_iconst (q := 55) rfl rfl ?_
    refine w_aload_n (q := 56) rfl rfl rfl ?_
    refine w_gfi (q := 59) (k' := 46) (v := I 104 46) rfl rfl rfl rfl rfl rfl rfl ?_
    refine w_ishl (q := 60) rfl rfl ?_
    refine w_iconst (q := 61) rfl rfl ?_
    refine w_isub (q := 62) rfl rfl ?_
    refine w_iload_n (q := 63) rfl rfl rfl ?_
    refine w_iconst (q := 64) rfl rfl ?_
    refine w_ixor (q := 65) rfl rfl ?_
    refine w_iand (q := 66) rfl rfl ?_
    refine w_iconst (q := 67) rfl rfl ?_
    refine w_callv (q := 70) rfl rfl rfl rfl rfl rfl ?_
    exact k
  · replace k := k.2 c2
    refine w_goto (t := 130) rfl rfl ?_
    refine w_iinc (q := 133) (L' := [some (.ref 104), some (w_i l1), some (w_i (l2 + 1)), some (w_i s0), u4, u5]) (M' := []) rfl rfl rfl rfl rfl rfl ?_
    refine w_goto (t := 26) rfl rfl ?_
    exact k
theorem b258_70 {xs : Nat → Int32} {xl : Nat} {I J : w_I} {b : Bool} {Q : Option Value → w_I → w_I → Bool → Prop} {l1 l2 l3 s0 : Int} {u4 u5 : Option Value} (k : ((-2147483648 ≤ s0 ∧ s0 < 2147483648) ∧ ((s0 < 100000000 → ((-2147483648 ≤ l1 ∧ l1 < 2147483648) ∧ ((l1 < 0 → w_T xs xl 258 26 [some (.ref 104), some (w_i (l3 + s0)), some (w_i (l2 + 1)), some (w_i l3), some (w_i s0), some (w_i (l3 + s0))] [] [] (w_U I 104 52 l2) J b Q) ∧ (¬ l1 < 0 → ((-2147483648 ≤ l3 + s0 ∧ l3 + s0 < 2147483648) ∧ ((l1 < l3 + s0 → w_T xs xl 258 26 [some (.ref 104), some (w_i l1), some (w_i (l2 + 1)), some (w_i l3), some (w_i s0), some (w_i (l3 + s0))] [] [] I J b Q) ∧ (¬ l1 < l3 + s0 → ((¬ l3 + s0 = l1 → w_T xs xl 258 26 [some (.ref 104), some (w_i (l3 + s0)), some (w_i (l2 + 1)), some (w_i l3), some (w_i s0), some (w_i (l3 + s0))] [] [] (w_U I 104 52 l2) J b Q) ∧ (l3 + s0 = l1 → w_C xs xl 259 [w_i l2] I J b (fun v Ic Jc bc => w_T xs xl 258 109 [some (.ref 104), some (w_i l1), some (w_i l2), some (w_i l3), some (w_i s0), some (w_i (l3 + s0))] [] (w_pv v []) Ic Jc bc Q)))))))))) ∧ (¬ s0 < 100000000 → w_T xs xl 258 26 [some (.ref 104), some (w_i l1), some (w_i (l2 + 1)), some (w_i l3), some (w_i s0), u5] [] [] I J b Q)))) : w_T xs xl 258 70 [some (.ref 104), some (w_i l1), some (w_i l2), some (w_i l3), u4, u5] [] [w_i s0] I J b Q := by
  refine w_istore (q := 72) (L' := [some (.ref 104), some (w_i l1), some (w_i l2), some (w_i l3), some (w_i s0), u5]) (M' := []) rfl rfl rfl rfl rfl ?_
  refine w_iload (q := 74) rfl rfl rfl ?_
  refine w_ldc_w (q := 77) (n := 100000000) rfl rfl rfl ?_
  obtain ⟨h1, k⟩ := k
  refine w_clt (t := 83) (q := 80) rfl rfl rfl h1 (by decide) (fun c2 => ?_) (fun c2 => ?_)
  · replace k := k.1 c2
    refine w_iload_n (q := 84) rfl rfl rfl ?_
    refine w_iload (q := 86) rfl rfl rfl ?_
    refine w_iadd (q := 87) rfl rfl ?_
    refine w_istore (q := 89) (L' := [some (.ref 104), some (w_i l1), some (w_i l2), some (w_i l3), some (w_i s0), some (w_i (l3 + s0))]) (M' := []) rfl rfl rfl rfl rfl ?_
    refine w_iload_n (q := 90) rfl rfl rfl ?_
    obtain ⟨h3, k⟩ := k
    refine w_zlt (t := 122) (q := 93) rfl rfl rfl h3 (fun c4 => ?_) (fun c4 => ?_)
    · replace k := k.1 c4
      refine w_iload (q := 124) rfl rfl rfl ?_
      refine w_istore_n (q := 125) (L' := [some (.ref 104), some (w_i (l3 + s0)), some (w_i l2), some (w_i l3), some (w_i s0), some (w_i (l3 + s0))]) (M' := []) rfl rfl rfl rfl rfl ?_
      refine w_aload_n (q := 126) rfl rfl rfl ?_
      refine w_iload_n (q := 127) rfl rfl rfl ?_
      refine w_pfi (q := 130) (k' := 52) rfl rfl rfl rfl ?_
      refine w_iinc (q := 133) (L' := [some (.ref 104), some (w_i (l3 + s0)), some (w_i (l2 + 1)), some (w_i l3), some (w_i s0), some (w_i (l3 + s0))]) (M' := []) rfl rfl rfl rfl rfl rfl ?_
      refine w_goto (t := 26) rfl rfl ?_
      exact k
    · replace k := k.2 c4
      refine w_iload (q := 95) rfl rfl rfl ?_
      refine w_iload_n (q := 96) rfl rfl rfl ?_
      obtain ⟨h5, k⟩ := k
      refine w_cgt (t := 130) (q := 99) rfl rfl rfl h5 h3 (fun c6 => ?_) (fun c6 => ?_)
      · replace k := k.1 c6
        refine w_iinc (q := 133) (L' := [some (.ref 104), some (w_i l1), some (w_i (l2 + 1)), some (w_i l3), some (w_i s0), some (w_i (l3 + s0))]) (M' := []) rfl rfl rfl rfl rfl rfl ?_
        refine w_goto (t := 26) rfl rfl ?_
        exact k
      · replace k := k.2 c6
        refine w_iload (q := 101) rfl rfl rfl ?_
        refine w_iload_n (q := 102) rfl rfl rfl ?_
        refine w_cne (t := 122) (q := 105) rfl rfl rfl h5 h3 (fun c7 => ?_) (fun c7 => ?_)
        · replace k := k.1 c7
          refine w_iload (q := 124) rfl rfl rfl ?_
          refine w_istore_n (q := 125) (L' := [some (.ref 104), some (w_i (l3 + s0)), some (w_i l2), some (w_i l3), some (w_i s0), some (w_i (l3 + s0))]) (M' := []) rfl rfl rfl rfl rfl ?_
          refine w_aload_n (q := 126) rfl rfl rfl ?_
          refine w_iload_n (q := 127) rfl rfl rfl ?_
          refine w_pfi (q := 130) (k' := 52) rfl rfl rfl rfl ?_
          refine w_iinc (q := 133) (L' := [some (.ref 104), some (w_i (l3 + s0)), some (w_i (l2 + 1)), some (w_i l3), some (w_i s0), some (w_i (l3 + s0))]) (M' := []) rfl rfl rfl rfl rfl rfl ?_
          refine w_goto (t := 26) rfl rfl ?_
          exact k
        · replace k := k.2 c7
          refine w_iload_n (q := 106) rfl rfl rfl ?_
          refine w_call (q := 109) rfl rfl rfl rfl rfl ?_
          exact k
  · replace k := k.2 c2
    refine w_goto (t := 130) rfl rfl ?_
    refine w_iinc (q := 133) (L' := [some (.ref 104), some (w_i l1), some (w_i (l2 + 1)), some (w_i l3), some (w_i s0), u5]) (M' := []) rfl rfl rfl rfl rfl rfl ?_
    refine w_goto (t := 26) rfl rfl ?_
    exact k
theorem b258_109 {xs : Nat → Int32} {xl : Nat} {I J : w_I} {b : Bool} {Q : Option Value → w_I → w_I → Bool → Prop} {l1 l2 l5 s0 : Int} {u3 u4 : Option Value} (k : w_C xs xl 259 [w_i (I 104 52)] I J b (fun v Ic Jc bc => w_T xs xl 258 116 [some (.ref 104), some (w_i l1), some (w_i l2), u3, u4, some (w_i l5)] [] (w_pv v [w_i s0]) Ic Jc bc Q)) : w_T xs xl 258 109 [some (.ref 104), some (w_i l1), some (w_i l2), u3, u4, some (w_i l5)] [] [w_i s0] I J b Q := by
  refine w_aload_n (q := 110) rfl rfl rfl ?_
  refine w_gfi (q := 113) (k' := 52) (v := I 104 52) rfl rfl rfl rfl rfl rfl rfl ?_
  refine w_call (q := 116) rfl rfl rfl rfl rfl ?_
  exact k
theorem b258_116 {xs : Nat → Int32} {xl : Nat} {I J : w_I} {b : Bool} {Q : Option Value → w_I → w_I → Bool → Prop} {l1 l2 l5 s0 s1 : Int} {u3 u4 : Option Value} (k : ((-2147483648 ≤ s0 ∧ s0 < 2147483648) ∧ (-2147483648 ≤ s1 ∧ s1 < 2147483648) ∧ ((s0 < s1 → w_T xs xl 258 26 [some (.ref 104), some (w_i l5), some (w_i (l2 + 1)), u3, u4, some (w_i l5)] [] [] (w_U I 104 52 l2) J b Q) ∧ (¬ s0 < s1 → w_T xs xl 258 26 [some (.ref 104), some (w_i l1), some (w_i (l2 + 1)), u3, u4, some (w_i l5)] [] [] I J b Q)))) : w_T xs xl 258 116 [some (.ref 104), some (w_i l1), some (w_i l2), u3, u4, some (w_i l5)] [] [w_i s1, w_i s0] I J b Q := by
  obtain ⟨h1, h2, k⟩ := k
  refine w_clt (t := 122) (q := 119) rfl rfl rfl h1 h2 (fun c3 => ?_) (fun c3 => ?_)
  · replace k := k.1 c3
    refine w_iload (q := 124) rfl rfl rfl ?_
    refine w_istore_n (q := 125) (L' := [some (.ref 104), some (w_i l5), some (w_i l2), u3, u4, some (w_i l5)]) (M' := []) rfl rfl rfl rfl rfl ?_
    refine w_aload_n (q := 126) rfl rfl rfl ?_
    refine w_iload_n (q := 127) rfl rfl rfl ?_
    refine w_pfi (q := 130) (k' := 52) rfl rfl rfl rfl ?_
    refine w_iinc (q := 133) (L' := [some (.ref 104), some (w_i l5), some (w_i (l2 + 1)), u3, u4, some (w_i l5)]) (M' := []) rfl rfl rfl rfl rfl rfl ?_
    refine w_goto (t := 26) rfl rfl ?_
    exact k
  · replace k := k.2 c3
    refine w_goto (t := 130) rfl rfl ?_
    refine w_iinc (q := 133) (L' := [some (.ref 104), some (w_i l1), some (w_i (l2 + 1)), u3, u4, some (w_i l5)]) (M' := []) rfl rfl rfl rfl rfl rfl ?_
    refine w_goto (t := 26) rfl rfl ?_
    exact k
theorem e259 {xs : Nat → Int32} {xl : Nat} {I J : w_I} {b : Bool} {Q : Option Value → w_I → w_I → Bool → Prop} {a0 : Int} (t : w_T xs xl 259 0 [some (w_i a0), none, none] [] [] I J b Q) : w_C xs xl 259 [w_i a0] I J b Q := w_en rfl t
theorem b259_0 {xs : Nat → Int32} {xl : Nat} {I J : w_I} {b : Bool} {Q : Option Value → w_I → w_I → Bool → Prop} {a0 : Int} (k : w_T xs xl 259 4 [some (w_i a0), some (w_i 0), some (w_i 0)] [] [] I J b Q) : w_T xs xl 259 0 [some (w_i a0), none, none] [] [] I J b Q := by
  refine w_iconst (q := 1) rfl rfl ?_
  refine w_istore_n (q := 2) (L' := [some (w_i a0), some (w_i 0), none]) (M' := []) rfl rfl rfl rfl rfl ?_
  refine w_iconst (q := 3) rfl rfl ?_
  refine w_istore_n (q := 4) (L' := [some (w_i a0), some (w_i 0), some (w_i 0)]) (M' := []) rfl rfl rfl rfl rfl ?_
  exact k
theorem b259_4 {xs : Nat → Int32} {xl : Nat} {I J : w_I} {b : Bool} {Q : Option Value → w_I → w_I → Bool → Prop} {l0 l1 l2 : Int} (k : ((-2147483648 ≤ l2 ∧ l2 < 2147483648) ∧ ((12 ≤ l2 → Q (some (w_i l1)) I J b) ∧ (¬ 12 ≤ l2 → w_T xs xl 259 4 [some (w_i l0), some (w_i (l1 + w_and (w_shr l0 l2) 1)), some (w_i (l2 + 1))] [] [] I J b Q)))) : w_T xs xl 259 4 [some (w_i l0), some (w_i l1), some (w_i l2)] [] [] I J b Q := by
  refine w_iload_n (q := 5) rfl rfl rfl ?_
  refine w_bipush (q := 7) rfl rfl rfl ?_
  obtain ⟨h1, k⟩ := k
  refine w_cge (t := 24) (q := 10) rfl rfl rfl h1 (by decide) (fun c2 => ?_) (fun c2 => ?_)
  · replace k := k.1 c2
    refine w_iload_n (q := 25) rfl rfl rfl ?_
    exact w_iret rfl rfl k
  · replace k := k.2 c2
    refine w_iload_n (q := 11) rfl rfl rfl ?_
    refine w_iload_n (q := 12) rfl rfl rfl ?_
    refine w_iload_n (q := 13) rfl rfl rfl ?_
    refine w_ishr (q := 14) rfl rfl ?_
    refine w_iconst (q := 15) rfl rfl ?_
    refine w_iand (q := 16) rfl rfl ?_
    refine w_iadd (q := 17) rfl rfl ?_
    refine w_istore_n (q := 18) (L' := [some (w_i l0), some (w_i (l1 + w_and (w_shr l0 l2) 1)), some (w_i l2)]) (M' := []) rfl rfl rfl rfl rfl ?_
    refine w_iinc (q := 21) (L' := [some (w_i l0), some (w_i (l1 + w_and (w_shr l0 l2) 1)), some (w_i (l2 + 1))]) (M' := []) rfl rfl rfl rfl rfl rfl ?_
    refine w_goto (t := 4) rfl rfl ?_
    exact k
theorem e260 {xs : Nat → Int32} {xl : Nat} {I J : w_I} {b : Bool} {Q : Option Value → w_I → w_I → Bool → Prop} {a1 : Int} (t : w_T xs xl 260 0 [some (.ref 104), some (w_i a1), none] [] [] I J b Q) : w_C xs xl 260 [.ref 104, w_i a1] I J b Q := w_en rfl t
theorem b260_0 {xs : Nat → Int32} {xl : Nat} {I J : w_I} {b : Bool} {Q : Option Value → w_I → w_I → Bool → Prop} {a1 : Int} (k : w_C xs xl 209 [w_i a1, w_i 0, w_i 1] I J b (fun v Ic Jc bc => w_T xs xl 260 6 [some (.ref 104), some (w_i a1), none] [] (w_pv v []) Ic Jc bc Q)) : w_T xs xl 260 0 [some (.ref 104), some (w_i a1), none] [] [] I J b Q := by
  refine w_iload_n (q := 1) rfl rfl rfl ?_
  refine w_iconst (q := 2) rfl rfl ?_
  refine w_iconst (q := 3) rfl rfl ?_
  refine w_call (q := 6) rfl rfl rfl rfl rfl ?_
  exact k
theorem b260_6 {xs : Nat → Int32} {xl : Nat} {I J : w_I} {b : Bool} {Q : Option Value → w_I → w_I → Bool → Prop} {l1 s0 : Int} {u2 : Option Value} (k : ((-2147483648 ≤ s0 ∧ s0 < 2147483648) ∧ ((¬ s0 = 0 → w_C xs xl 258 [.ref 104] I J b (fun v Ic Jc bc => w_T xs xl 260 15 [some (.ref 104), some (w_i l1), u2] [] (w_pv v []) Ic Jc bc Q)) ∧ (s0 = 0 → Q (some (w_i (-1))) I J b)))) : w_T xs xl 260 6 [some (.ref 104), some (w_i l1), u2] [] [w_i s0] I J b Q := by
  obtain ⟨h1, k⟩ := k
  refine w_zne (t := 11) (q := 9) rfl rfl rfl h1 (fun c2 => ?_) (fun c2 => ?_)
  · replace k := k.1 c2
    refine w_aload_n (q := 12) rfl rfl rfl ?_
    refine w_callv (q := 15) rfl rfl rfl rfl rfl rfl ?_
    exact k
  · replace k := k.2 c2
    refine w_iconst (q := 10) rfl rfl ?_
    exact w_iret rfl rfl k
theorem b260_15 {xs : Nat → Int32} {xl : Nat} {I J : w_I} {b : Bool} {Q : Option Value → w_I → w_I → Bool → Prop} {l1 s0 : Int} {u2 : Option Value} (k : ((-2147483648 ≤ s0 ∧ s0 < 2147483648) ∧ ((0 ≤ s0 → ((-2147483648 ≤ l1 ∧ l1 < 2147483648) ∧ ((¬ l1 = 0 → Q (some (w_i (I 104 52))) I J b) ∧ (l1 = 0 → Q (some (w_i s0)) I J b)))) ∧ (¬ 0 ≤ s0 → Q (some (w_i (-2))) I J b)))) : w_T xs xl 260 15 [some (.ref 104), some (w_i l1), u2] [] [w_i s0] I J b Q := by
  refine w_istore_n (q := 16) (L' := [some (.ref 104), some (w_i l1), some (w_i s0)]) (M' := []) rfl rfl rfl rfl rfl ?_
  refine w_iload_n (q := 17) rfl rfl rfl ?_
  obtain ⟨h1, k⟩ := k
  refine w_zge (t := 25) (q := 20) rfl rfl rfl h1 (fun c2 => ?_) (fun c2 => ?_)
  · replace k := k.1 c2
    refine w_iload_n (q := 26) rfl rfl rfl ?_
    obtain ⟨h3, k⟩ := k
    refine w_zne (t := 33) (q := 29) rfl rfl rfl h3 (fun c4 => ?_) (fun c4 => ?_)
    · replace k := k.1 c4
      refine w_aload_n (q := 34) rfl rfl rfl ?_
      refine w_gfi (q := 37) (k' := 52) (v := I 104 52) rfl rfl rfl rfl rfl rfl rfl ?_
      exact w_iret rfl rfl k
    · replace k := k.2 c4
      refine w_iload_n (q := 30) rfl rfl rfl ?_
      refine w_goto (t := 37) rfl rfl ?_
      exact w_iret rfl rfl k
  · replace k := k.2 c2
    refine w_bipush (q := 22) rfl rfl rfl ?_
    refine w_goto (t := 37) rfl rfl ?_
    exact w_iret rfl rfl k
theorem e261 {xs : Nat → Int32} {xl : Nat} {I J : w_I} {b : Bool} {Q : Option Value → w_I → w_I → Bool → Prop} {a1 a2 a3 : Int} (t : w_T xs xl 261 0 [some (.ref 104), some (w_i a1), some (w_i a2), some (w_i a3), none] [] [] I J b Q) : w_C xs xl 261 [.ref 104, w_i a1, w_i a2, w_i a3] I J b Q := w_en rfl t
theorem b261_0 {xs : Nat → Int32} {xl : Nat} {I J : w_I} {b : Bool} {Q : Option Value → w_I → w_I → Bool → Prop} {a1 a2 a3 : Int} (k : ((-2147483648 ≤ I 110 10 ∧ I 110 10 < 2147483648) ∧ ((I 110 10 = 40 → Q (some (w_i (-1))) I J b) ∧ (¬ I 110 10 = 40 → w_C xs xl 209 [w_i a1, w_i 0, w_i 99] I J b (fun v Ic Jc bc => w_T xs xl 261 19 [some (.ref 104), some (w_i a1), some (w_i a2), some (w_i a3), none] [] (w_pv v []) Ic Jc bc Q))))) : w_T xs xl 261 0 [some (.ref 104), some (w_i a1), some (w_i a2), some (w_i a3), none] [] [] I J b Q := by
  refine w_aload_n (q := 1) rfl rfl rfl ?_
  refine w_gfr (q := 4) rfl rfl rfl rfl (j := 110) rfl ?_
  refine w_bipush (q := 6) rfl rfl rfl ?_
  refine w_iald (q := 7) (n := 2800) (v := I 110 10) rfl rfl rfl rfl rfl rfl (by decide) ?_
  refine w_bipush (q := 9) rfl rfl rfl ?_
  obtain ⟨h1, k⟩ := k
  refine w_ceq (t := 45) (q := 12) rfl rfl rfl h1 (by decide) (fun c2 => ?_) (fun c2 => ?_)
  · replace k := k.1 c2
    refine w_iconst (q := 46) rfl rfl ?_
    exact w_iret rfl rfl k
  · replace k := k.2 c2
    refine w_iload_n (q := 13) rfl rfl rfl ?_
    refine w_iconst (q := 14) rfl rfl ?_
    refine w_bipush (q := 16) rfl rfl rfl ?_
    refine w_call (q := 19) rfl rfl rfl rfl rfl ?_
    exact k
theorem b261_19 {xs : Nat → Int32} {xl : Nat} {I J : w_I} {b : Bool} {Q : Option Value → w_I → w_I → Bool → Prop} {l1 l2 l3 s0 : Int} {u4 : Option Value} (k : ((-2147483648 ≤ s0 ∧ s0 < 2147483648) ∧ ((s0 = 0 → Q (some (w_i (-1))) I J b) ∧ (¬ s0 = 0 → ((-2147483648 ≤ l2 ∧ l2 < 2147483648) ∧ ((l2 < 0 → Q (some (w_i (-1))) I J b) ∧ (¬ l2 < 0 → ((-2147483648 ≤ I 110 8 ∧ I 110 8 < 2147483648) ∧ ((I 110 8 ≤ l2 → Q (some (w_i (-1))) I J b) ∧ (¬ I 110 8 ≤ l2 → w_C xs xl 212 [.ref 104, w_i l3] I J b (fun v Ic Jc bc => w_T xs xl 261 42 [some (.ref 104), some (w_i l1), some (w_i l2), some (w_i l3), u4] [] (w_pv v []) Ic Jc bc Q))))))))))) : w_T xs xl 261 19 [some (.ref 104), some (w_i l1), some (w_i l2), some (w_i l3), u4] [] [w_i s0] I J b Q := by
  obtain ⟨h1, k⟩ := k
  refine w_zeq (t := 45) (q := 22) rfl rfl rfl h1 (fun c2 => ?_) (fun c2 => ?_)
  · replace k := k.1 c2
    refine w_iconst (q := 46) rfl rfl ?_
    exact w_iret rfl rfl k
  · replace k := k.2 c2
    refine w_iload_n (q := 23) rfl rfl rfl ?_
    obtain ⟨h3, k⟩ := k
    refine w_zlt (t := 45) (q := 26) rfl rfl rfl h3 (fun c4 => ?_) (fun c4 => ?_)
    · replace k := k.1 c4
      refine w_iconst (q := 46) rfl rfl ?_
      exact w_iret rfl rfl k
    · replace k := k.2 c4
      refine w_iload_n (q := 27) rfl rfl rfl ?_
      refine w_aload_n (q := 28) rfl rfl rfl ?_
      refine w_gfr (q := 31) rfl rfl rfl rfl (j := 110) rfl ?_
      refine w_bipush (q := 33) rfl rfl rfl ?_
      refine w_iald (q := 34) (n := 2800) (v := I 110 8) rfl rfl rfl rfl rfl rfl (by decide) ?_
      obtain ⟨h5, k⟩ := k
      refine w_cge (t := 45) (q := 37) rfl rfl rfl h3 h5 (fun c6 => ?_) (fun c6 => ?_)
      · replace k := k.1 c6
        refine w_iconst (q := 46) rfl rfl ?_
        exact w_iret rfl rfl k
      · replace k := k.2 c6
        refine w_aload_n (q := 38) rfl rfl rfl ?_
        refine w_iload_n (q := 39) rfl rfl rfl ?_
        refine w_callv (q := 42) rfl rfl rfl rfl rfl rfl ?_
        exact k
theorem b261_42 {xs : Nat → Int32} {xl : Nat} {I J : w_I} {b : Bool} {Q : Option Value → w_I → w_I → Bool → Prop} {l1 l2 l3 s0 : Int} {u4 : Option Value} (k : ((-2147483648 ≤ s0 ∧ s0 < 2147483648) ∧ ((¬ s0 = 0 → ((0 ≤ 550 + 3 * I 110 10 ∧ 550 + 3 * I 110 10 < 2800) ∧ ((0 ≤ 550 + 3 * I 110 10 + 1 ∧ 550 + 3 * I 110 10 + 1 < 2800) ∧ ((0 ≤ 550 + 3 * I 110 10 + 2 ∧ 550 + 3 * I 110 10 + 2 < 2800) ∧ Q (some (w_i ((w_U (w_U (w_U I 110 (550 + 3 * I 110 10) l1) 110 (550 + 3 * I 110 10 + 1) l2) 110 (550 + 3 * I 110 10 + 2) l3) 110 10 + 1 - 1))) (w_U (w_U (w_U (w_U I 110 (550 + 3 * I 110 10) l1) 110 (550 + 3 * I 110 10 + 1) l2) 110 (550 + 3 * I 110 10 + 2) l3) 110 10 ((w_U (w_U (w_U I 110 (550 + 3 * I 110 10) l1) 110 (550 + 3 * I 110 10 + 1) l2) 110 (550 + 3 * I 110 10 + 2) l3) 110 10 + 1)) J b)))) ∧ (s0 = 0 → Q (some (w_i (-1))) I J b)))) : w_T xs xl 261 42 [some (.ref 104), some (w_i l1), some (w_i l2), some (w_i l3), u4] [] [w_i s0] I J b Q := by
  obtain ⟨h1, k⟩ := k
  refine w_zne (t := 47) (q := 45) rfl rfl rfl h1 (fun c2 => ?_) (fun c2 => ?_)
  · replace k := k.1 c2
    refine w_sipush (q := 50) rfl rfl rfl ?_
    refine w_iconst (q := 51) rfl rfl ?_
    refine w_aload_n (q := 52) rfl rfl rfl ?_
    refine w_gfr (q := 55) rfl rfl rfl rfl (j := 110) rfl ?_
    refine w_bipush (q := 57) rfl rfl rfl ?_
    refine w_iald (q := 58) (n := 2800) (v := I 110 10) rfl rfl rfl rfl rfl rfl (by decide) ?_
    refine w_imul (q := 59) rfl rfl ?_
    refine w_iadd (q := 60) rfl rfl ?_
    refine w_istore (q := 62) (L' := [some (.ref 104), some (w_i l1), some (w_i l2), some (w_i l3), some (w_i (550 + 3 * I 110 10))]) (M' := []) rfl rfl rfl rfl rfl ?_
    refine w_aload_n (q := 63) rfl rfl rfl ?_
    refine w_gfr (q := 66) rfl rfl rfl rfl (j := 110) rfl ?_
    refine w_iload (q := 68) rfl rfl rfl ?_
    refine w_iload_n (q := 69) rfl rfl rfl ?_
    obtain ⟨h3, k⟩ := k
    refine w_iast (q := 70) (n := 2800) rfl rfl rfl rfl rfl h3 ?_
    refine w_aload_n (q := 71) rfl rfl rfl ?_
    refine w_gfr (q := 74) rfl rfl rfl rfl (j := 110) rfl ?_
    refine w_iload (q := 76) rfl rfl rfl ?_
    refine w_iconst (q := 77) rfl rfl ?_
    refine w_iadd (q := 78) rfl rfl ?_
    refine w_iload_n (q := 79) rfl rfl rfl ?_
    obtain ⟨h4, k⟩ := k
    refine w_iast (q := 80) (n := 2800) rfl rfl rfl rfl rfl h4 ?_
    refine w_aload_n (q := 81) rfl rfl rfl ?_
    refine w_gfr (q := 84) rfl rfl rfl rfl (j := 110) rfl ?_
    refine w_iload (q := 86) rfl rfl rfl ?_
    refine w_iconst (q := 87) rfl rfl ?_
    refine w_iadd (q := 88) rfl rfl ?_
    refine w_iload_n (q := 89) rfl rfl rfl ?_
    obtain ⟨h5, k⟩ := k
    refine w_iast (q := 90) (n := 2800) rfl rfl rfl rfl rfl h5 ?_
    refine w_aload_n (q := 91) rfl rfl rfl ?_
    refine w_gfr (q := 94) rfl rfl rfl rfl (j := 110) rfl ?_
    refine w_bipush (q := 96) rfl rfl rfl ?_
    refine w_dup2 (q := 97) rfl rfl rfl rfl ?_
    refine w_iald (q := 98) (n := 2800) (v := (w_U (w_U (w_U I 110 (550 + 3 * I 110 10) l1) 110 (550 + 3 * I 110 10 + 1) l2) 110 (550 + 3 * I 110 10 + 2) l3) 110 10) rfl rfl rfl rfl rfl rfl (by decide) ?_
    refine w_iconst (q := 99) rfl rfl ?_
    refine w_iadd (q := 100) rfl rfl ?_
    refine w_iast (q := 101) (n := 2800) rfl rfl rfl rfl rfl (by decide) ?_
    refine w_aload_n (q := 102) rfl rfl rfl ?_
    refine w_gfr (q := 105) rfl rfl rfl rfl (j := 110) rfl ?_
    refine w_bipush (q := 107) rfl rfl rfl ?_
    refine w_iald (q := 108) (n := 2800) (v := (w_U (w_U (w_U I 110 (550 + 3 * I 110 10) l1) 110 (550 + 3 * I 110 10 + 1) l2) 110 (550 + 3 * I 110 10 + 2) l3) 110 10 + 1) rfl rfl rfl rfl rfl rfl (by decide) ?_
    refine w_iconst (q := 109) rfl rfl ?_
    refine w_isub (q := 110) rfl rfl ?_
    exact w_iret rfl rfl k
  · replace k := k.2 c2
    refine w_iconst (q := 46) rfl rfl ?_
    exact w_iret rfl rfl k
theorem e262 {xs : Nat → Int32} {xl : Nat} {I J : w_I} {b : Bool} {Q : Option Value → w_I → w_I → Bool → Prop} (t : w_T xs xl 262 0 [some (.ref 104), none] [] [] I J b Q) : w_C xs xl 262 [.ref 104] I J b Q := w_en rfl t
theorem b262_0 {xs : Nat → Int32} {xl : Nat} {I J : w_I} {b : Bool} {Q : Option Value → w_I → w_I → Bool → Prop} (k : Q (some (w_i (I 110 10))) (w_U I 110 10 0) J b) : w_T xs xl 262 0 [some (.ref 104), none] [] [] I J b Q := by
  refine w_aload_n (q := 1) rfl rfl rfl ?_
  refine w_gfr (q := 4) rfl rfl rfl rfl (j := 110) rfl ?_
  refine w_bipush (q := 6) rfl rfl rfl ?_
  refine w_iald (q := 7) (n := 2800) (v := I 110 10) rfl rfl rfl rfl rfl rfl (by decide) ?_
  refine w_istore_n (q := 8) (L' := [some (.ref 104), some (w_i (I 110 10))]) (M' := []) rfl rfl rfl rfl rfl ?_
  refine w_aload_n (q := 9) rfl rfl rfl ?_
  refine w_gfr (q := 12) rfl rfl rfl rfl (j := 110) rfl ?_
  refine w_bipush (q := 14) rfl rfl rfl ?_
  refine w_iconst (q := 15) rfl rfl ?_
  refine w_iast (q := 16) (n := 2800) rfl rfl rfl rfl rfl (by decide) ?_
  refine w_iload_n (q := 17) rfl rfl rfl ?_
  exact w_iret rfl rfl k
theorem e263 {xs : Nat → Int32} {xl : Nat} {I J : w_I} {b : Bool} {Q : Option Value → w_I → w_I → Bool → Prop} (t : w_T xs xl 263 0 [some (.ref 104), none] [] [] I J b Q) : w_C xs xl 263 [.ref 104] I J b Q := w_en rfl t
theorem b263_0 {xs : Nat → Int32} {xl : Nat} {I J : w_I} {b : Bool} {Q : Option Value → w_I → w_I → Bool → Prop} (k : w_T xs xl 263 2 [some (.ref 104), some (w_i 0)] [] [] I J b Q) : w_T xs xl 263 0 [some (.ref 104), none] [] [] I J b Q := by
  refine w_iconst (q := 1) rfl rfl ?_
  refine w_istore_n (q := 2) (L' := [some (.ref 104), some (w_i 0)]) (M' := []) rfl rfl rfl rfl rfl ?_
  exact k
theorem b263_2 {xs : Nat → Int32} {xl : Nat} {I J : w_I} {b : Bool} {Q : Option Value → w_I → w_I → Bool → Prop} {l1 : Int} (k : ((-2147483648 ≤ l1 ∧ l1 < 2147483648) ∧ ((30 ≤ l1 → Q none I J b) ∧ (¬ 30 ≤ l1 → ((0 ≤ 460 + 3 * l1 + 1 ∧ 460 + 3 * l1 + 1 < 2800) ∧ ((0 ≤ l1 ∧ l1 < 30) ∧ w_T xs xl 263 2 [some (.ref 104), some (w_i (l1 + 1))] [] [] (w_U I 138 l1 (I 110 (460 + 3 * l1 + 1))) J b Q)))))) : w_T xs xl 263 2 [some (.ref 104), some (w_i l1)] [] [] I J b Q := by
  refine w_iload_n (q := 3) rfl rfl rfl ?_
  refine w_bipush (q := 5) rfl rfl rfl ?_
  obtain ⟨h1, k⟩ := k
  refine w_cge (t := 34) (q := 8) rfl rfl rfl h1 (by decide) (fun c2 => ?_) (fun c2 => ?_)
  · replace k := k.1 c2
    exact w_vret rfl k
  · replace k := k.2 c2
    refine w_aload_n (q := 9) rfl rfl rfl ?_
    refine w_gfr (q := 12) rfl rfl rfl rfl (j := 138) rfl ?_
    refine w_iload_n (q := 13) rfl rfl rfl ?_
    refine w_aload_n (q := 14) rfl rfl rfl ?_
    refine w_gfr (q := 17) rfl rfl rfl rfl (j := 110) rfl ?_
    refine w_sipush (q := 20) rfl rfl rfl ?_
    refine w_iconst (q := 21) rfl rfl ?_
    refine w_iload_n (q := 22) rfl rfl rfl ?_
    refine w_imul (q := 23) rfl rfl ?_
    refine w_iadd (q := 24) rfl rfl ?_
    refine w_iconst (q := 25) rfl rfl ?_
    refine w_iadd (q := 26) rfl rfl ?_
    obtain ⟨h3, k⟩ := k
    refine w_iald (q := 27) (n := 2800) (v := I 110 (460 + 3 * l1 + 1)) rfl rfl rfl rfl rfl rfl h3 ?_
    obtain ⟨h4, k⟩ := k
    refine w_iast (q := 28) (n := 30) rfl rfl rfl rfl rfl h4 ?_
    refine w_iinc (q := 31) (L' := [some (.ref 104), some (w_i (l1 + 1))]) (M' := []) rfl rfl rfl rfl rfl rfl ?_
    refine w_goto (t := 2) rfl rfl ?_
    exact k
theorem e264 {xs : Nat → Int32} {xl : Nat} {I J : w_I} {b : Bool} {Q : Option Value → w_I → w_I → Bool → Prop} (t : w_T xs xl 264 0 [some (.ref 104), none] [] [] I J b Q) : w_C xs xl 264 [.ref 104] I J b Q := w_en rfl t
theorem b264_0 {xs : Nat → Int32} {xl : Nat} {I J : w_I} {b : Bool} {Q : Option Value → w_I → w_I → Bool → Prop} (k : w_T xs xl 264 2 [some (.ref 104), some (w_i 0)] [] [] I J b Q) : w_T xs xl 264 0 [some (.ref 104), none] [] [] I J b Q := by
  refine w_iconst (q := 1) rfl rfl ?_
  refine w_istore_n (q := 2) (L' := [some (.ref 104), some (w_i 0)]) (M' := []) rfl rfl rfl rfl rfl ?_
  exact k
theorem b264_2 {xs : Nat → Int32} {xl : Nat} {I J : w_I} {b : Bool} {Q : Option Value → w_I → w_I → Bool → Prop} {l1 : Int} (k : ((-2147483648 ≤ l1 ∧ l1 < 2147483648) ∧ ((30 ≤ l1 → Q none I J b) ∧ (¬ 30 ≤ l1 → ((0 ≤ l1 ∧ l1 < 30) ∧ ((0 ≤ 460 + 3 * l1 + 1 ∧ 460 + 3 * l1 + 1 < 2800) ∧ w_T xs xl 264 2 [some (.ref 104), some (w_i (l1 + 1))] [] [] (w_U I 110 (460 + 3 * l1 + 1) (I 138 l1)) J b Q)))))) : w_T xs xl 264 2 [some (.ref 104), some (w_i l1)] [] [] I J b Q := by
  refine w_iload_n (q := 3) rfl rfl rfl ?_
  refine w_bipush (q := 5) rfl rfl rfl ?_
  obtain ⟨h1, k⟩ := k
  refine w_cge (t := 34) (q := 8) rfl rfl rfl h1 (by decide) (fun c2 => ?_) (fun c2 => ?_)
  · replace k := k.1 c2
    exact w_vret rfl k
  · replace k := k.2 c2
    refine w_aload_n (q := 9) rfl rfl rfl ?_
    refine w_gfr (q := 12) rfl rfl rfl rfl (j := 110) rfl ?_
    refine w_sipush (q := 15) rfl rfl rfl ?_
    refine w_iconst (q := 16) rfl rfl ?_
    refine w_iload_n (q := 17) rfl rfl rfl ?_
    refine w_imul (q := 18) rfl rfl ?_
    refine w_iadd (q := 19) rfl rfl ?_
    refine w_iconst (q := 20) rfl rfl ?_
    refine w_iadd (q := 21) rfl rfl ?_
    refine w_aload_n (q := 22) rfl rfl rfl ?_
    refine w_gfr (q := 25) rfl rfl rfl rfl (j := 138) rfl ?_
    refine w_iload_n (q := 26) rfl rfl rfl ?_
    obtain ⟨h3, k⟩ := k
    refine w_iald (q := 27) (n := 30) (v := I 138 l1) rfl rfl rfl rfl rfl rfl h3 ?_
    obtain ⟨h4, k⟩ := k
    refine w_iast (q := 28) (n := 2800) rfl rfl rfl rfl rfl h4 ?_
    refine w_iinc (q := 31) (L' := [some (.ref 104), some (w_i (l1 + 1))]) (M' := []) rfl rfl rfl rfl rfl rfl ?_
    refine w_goto (t := 2) rfl rfl ?_
    exact k
theorem e265 {xs : Nat → Int32} {xl : Nat} {I J : w_I} {b : Bool} {Q : Option Value → w_I → w_I → Bool → Prop} {a1 a2 : Int} (t : w_T xs xl 265 0 [some (.ref 104), some (w_i a1), some (w_i a2)] [] [] I J b Q) : w_C xs xl 265 [.ref 104, w_i a1, w_i a2] I J b Q := w_en rfl t
theorem b265_0 {xs : Nat → Int32} {xl : Nat} {I J : w_I} {b : Bool} {Q : Option Value → w_I → w_I → Bool → Prop} {a1 a2 : Int} (k : w_C xs xl 217 [.ref 104, w_i a1] (w_U I 104 36 0) J b (fun v Ic Jc bc => w_T xs xl 265 10 [some (.ref 104), some (w_i a1), some (w_i a2)] [] (w_pv v []) Ic Jc bc Q)) : w_T xs xl 265 0 [some (.ref 104), some (w_i a1), some (w_i a2)] [] [] I J b Q := by
  refine w_aload_n (q := 1) rfl rfl rfl ?_
  refine w_iconst (q := 2) rfl rfl ?_
  refine w_pfi (q := 5) (k' := 36) rfl rfl rfl rfl ?_
  refine w_aload_n (q := 6) rfl rfl rfl ?_
  refine w_iload_n (q := 7) rfl rfl rfl ?_
  refine w_callv (q := 10) rfl rfl rfl rfl rfl rfl ?_
  exact k
theorem b265_10 {xs : Nat → Int32} {xl : Nat} {I J : w_I} {b : Bool} {Q : Option Value → w_I → w_I → Bool → Prop} {l1 l2 : Int} (k : w_C xs xl 213 [.ref 104, w_i l1] I J b (fun v Ic Jc bc => w_T xs xl 265 18 [some (.ref 104), some (w_i l1), some (w_i l2)] [] (w_pv v [w_i 0, w_i l1, .ref 104]) Ic Jc bc Q)) : w_T xs xl 265 10 [some (.ref 104), some (w_i l1), some (w_i l2)] [] [] I J b Q := by
  refine w_aload_n (q := 11) rfl rfl rfl ?_
  refine w_iload_n (q := 12) rfl rfl rfl ?_
  refine w_iconst (q := 13) rfl rfl ?_
  refine w_aload_n (q := 14) rfl rfl rfl ?_
  refine w_iload_n (q := 15) rfl rfl rfl ?_
  refine w_callv (q := 18) rfl rfl rfl rfl rfl rfl ?_
  exact k
theorem b265_18 {xs : Nat → Int32} {xl : Nat} {I J : w_I} {b : Bool} {Q : Option Value → w_I → w_I → Bool → Prop} {u1 : Option Value} {l2 s1 s2 s3 : Int} (k : w_C xs xl 237 [.ref 104, w_i s1, w_i s2, w_i s3, w_i (I 104 35), w_i (I 104 33), w_i (I 104 34)] I J b (fun v Ic Jc bc => w_T xs xl 265 33 [some (.ref 104), u1, some (w_i l2)] [] (w_pv v []) Ic Jc bc Q)) : w_T xs xl 265 18 [some (.ref 104), u1, some (w_i l2)] [] [w_i s3, w_i s2, w_i s1, .ref 104] I J b Q := by
  refine w_aload_n (q := 19) rfl rfl rfl ?_
  refine w_gfi (q := 22) (k' := 35) (v := I 104 35) rfl rfl rfl rfl rfl rfl rfl ?_
  refine w_aload_n (q := 23) rfl rfl rfl ?_
  refine w_gfi (q := 26) (k' := 33) (v := I 104 33) rfl rfl rfl rfl rfl rfl rfl ?_
  refine w_aload_n (q := 27) rfl rfl rfl ?_
  refine w_gfi (q := 30) (k' := 34) (v := I 104 34) rfl rfl rfl rfl rfl rfl rfl ?_
  refine w_callv (q := 33) rfl rfl rfl rfl rfl rfl ?_
  exact k
theorem b265_33 {xs : Nat → Int32} {xl : Nat} {I J : w_I} {b : Bool} {Q : Option Value → w_I → w_I → Bool → Prop} {u1 : Option Value} {l2 : Int} (k : w_C xs xl 241 [.ref 104, w_i 0, w_i l2] I J b (fun v Ic Jc bc => w_T xs xl 265 39 [some (.ref 104), u1, some (w_i l2)] [] (w_pv v []) Ic Jc bc Q)) : w_T xs xl 265 33 [some (.ref 104), u1, some (w_i l2)] [] [] I J b Q := by
  refine w_aload_n (q := 34) rfl rfl rfl ?_
  refine w_iconst (q := 35) rfl rfl ?_
  refine w_iload_n (q := 36) rfl rfl rfl ?_
  refine w_callv (q := 39) rfl rfl rfl rfl rfl rfl ?_
  exact k
theorem b265_39 {xs : Nat → Int32} {xl : Nat} {I J : w_I} {b : Bool} {Q : Option Value → w_I → w_I → Bool → Prop} {u1 u2 : Option Value} {s0 : Int} (k : Q (some (w_i s0)) I J b) : w_T xs xl 265 39 [some (.ref 104), u1, u2] [] [w_i s0] I J b Q := by
  exact w_iret rfl rfl k
theorem e266 {xs : Nat → Int32} {xl : Nat} {I J : w_I} {b : Bool} {Q : Option Value → w_I → w_I → Bool → Prop} (t : w_T xs xl 266 0 [some (.ref 104), none, none, none, none, none, none, none] [] [] I J b Q) : w_C xs xl 266 [.ref 104] I J b Q := w_en rfl t
theorem b266_0 {xs : Nat → Int32} {xl : Nat} {I J : w_I} {b : Bool} {Q : Option Value → w_I → w_I → Bool → Prop} (k : w_T xs xl 266 7 [some (.ref 104), some (w_i 0), none, none, none, none, none, none] [] [] (w_U I 104 54 0) J b Q) : w_T xs xl 266 0 [some (.ref 104), none, none, none, none, none, none, none] [] [] I J b Q := by
  refine w_aload_n (q := 1) rfl rfl rfl ?_
  refine w_iconst (q := 2) rfl rfl ?_
  refine w_pfi (q := 5) (k' := 54) rfl rfl rfl rfl ?_
  refine w_iconst (q := 6) rfl rfl ?_
  refine w_istore_n (q := 7) (L' := [some (.ref 104), some (w_i 0), none, none, none, none, none, none]) (M' := []) rfl rfl rfl rfl rfl ?_
  exact k
theorem b266_7 {xs : Nat → Int32} {xl : Nat} {I J : w_I} {b : Bool} {Q : Option Value → w_I → w_I → Bool → Prop} {l1 : Int} {u2 u3 u4 u5 u6 u7 : Option Value} (k : ((-2147483648 ≤ l1 ∧ l1 < 2147483648) ∧ ((100 ≤ l1 → Q (some (w_i 0)) I J b) ∧ (¬ 100 ≤ l1 → w_T xs xl 266 20 [some (.ref 104), some (w_i l1), some (w_i 0), some (w_i (-1)), some (w_i 0), u5, u6, u7] [] [] I J b Q)))) : w_T xs xl 266 7 [some (.ref 104), some (w_i l1), u2, u3, u4, u5, u6, u7] [] [] I J b Q := by
  refine w_iload_n (q := 8) rfl rfl rfl ?_
  refine w_bipush (q := 10) rfl rfl rfl ?_
  obtain ⟨h1, k⟩ := k
  refine w_cge (t := 210) (q := 13) rfl rfl rfl h1 (by decide) (fun c2 => ?_) (fun c2 => ?_)
  · replace k := k.1 c2
    refine w_iconst (q := 211) rfl rfl ?_
    exact w_iret rfl rfl k
  · replace k := k.2 c2
    refine w_iconst (q := 14) rfl rfl ?_
    refine w_istore_n (q := 15) (L' := [some (.ref 104), some (w_i l1), some (w_i 0), u3, u4, u5, u6, u7]) (M' := []) rfl rfl rfl rfl rfl ?_
    refine w_iconst (q := 16) rfl rfl ?_
    refine w_istore_n (q := 17) (L' := [some (.ref 104), some (w_i l1), some (w_i 0), some (w_i (-1)), u4, u5, u6, u7]) (M' := []) rfl rfl rfl rfl rfl ?_
    refine w_iconst (q := 18) rfl rfl ?_
    refine w_istore (q := 20) (L' := [some (.ref 104), some (w_i l1), some (w_i 0), some (w_i (-1)), some (w_i 0), u5, u6, u7]) (M' := []) rfl rfl rfl rfl rfl ?_
    exact k
theorem b266_20 {xs : Nat → Int32} {xl : Nat} {I J : w_I} {b : Bool} {Q : Option Value → w_I → w_I → Bool → Prop} {l1 l2 l3 l4 : Int} {u5 u6 u7 : Option Value} (k : ((-2147483648 ≤ l4 ∧ l4 < 2147483648) ∧ (-2147483648 ≤ I 110 10 ∧ I 110 10 < 2147483648) ∧ ((I 110 10 ≤ l4 → ((-2147483648 ≤ l2 ∧ l2 < 2147483648) ∧ ((l2 ≤ 0 → w_T xs xl 266 7 [some (.ref 104), some (w_i (l1 + 1)), some (w_i l2), some (w_i l3), some (w_i l4), u5, u6, u7] [] [] I J b Q) ∧ (¬ l2 ≤ 0 → w_C xs xl 233 [.ref 104, w_i 0] I J b (fun v Ic Jc bc => w_T xs xl 266 194 [some (.ref 104), some (w_i l1), some (w_i l2), some (w_i l3), some (w_i l4), u5, u6, u7] [] (w_pv v []) Ic Jc bc Q))))) ∧ (¬ I 110 10 ≤ l4 → ((0 ≤ 550 + 3 * l4 ∧ 550 + 3 * l4 < 2800) ∧ ((-2147483648 ≤ I 110 (550 + 3 * l4) ∧ I 110 (550 + 3 * l4) < 2147483648) ∧ (-2147483648 ≤ l1 ∧ l1 < 2147483648) ∧ ((I 110 (550 + 3 * l4) = l1 → ((0 ≤ 550 + 3 * l4 + 1 ∧ 550 + 3 * l4 + 1 < 2800) ∧ ((0 ≤ 550 + 3 * l4 + 2 ∧ 550 + 3 * l4 + 2 < 2800) ∧ w_C xs xl 211 [.ref 104, w_i (I 110 (550 + 3 * l4 + 1))] I J b (fun v Ic Jc bc => w_T xs xl 266 84 [some (.ref 104), some (w_i l1), some (w_i l2), some (w_i l3), some (w_i l4), some (w_i (550 + 3 * l4)), some (w_i (I 110 (550 + 3 * l4 + 1))), some (w_i (I 110 (550 + 3 * l4 + 2)))] [] (w_pv v []) Ic Jc bc Q)))) ∧ (¬ I 110 (550 + 3 * l4) = l1 → w_T xs xl 266 20 [some (.ref 104), some (w_i l1), some (w_i l2), some (w_i l3), some (w_i (l4 + 1)), some (w_i (550 + 3 * l4)), u6, u7] [] [] I J b Q)))))))) : w_T xs xl 266 20 [some (.ref 104), some (w_i l1), some (w_i l2), some (w_i l3), some (w_i l4), u5, u6, u7] [] [] I J b Q := by
  refine w_iload (q := 22) rfl rfl rfl ?_
  refine w_aload_n (q := 23) rfl rfl rfl ?_
  refine w_gfr (q := 26) rfl rfl rfl rfl (j := 110) rfl ?_
  refine w_bipush (q := 28) rfl rfl rfl ?_
  refine w_iald (q := 29) (n := 2800) (v := I 110 10) rfl rfl rfl rfl rfl rfl (by decide) ?_
  obtain ⟨h1, h2, k⟩ := k
  refine w_cge (t := 185) (q := 32) rfl rfl rfl h1 h2 (fun c3 => ?_) (fun c3 => ?_)
  · replace k := k.1 c3
    refine w_iload_n (q := 186) rfl rfl rfl ?_
    obtain ⟨h4, k⟩ := k
    refine w_zle (t := 204) (q := 189) rfl rfl rfl h4 (fun c5 => ?_) (fun c5 => ?_)
    · replace k := k.1 c5
      refine w_iinc (q := 207) (L' := [some (.ref 104), some (w_i (l1 + 1)), some (w_i l2), some (w_i l3), some (w_i l4), u5, u6, u7]) (M' := []) rfl rfl rfl rfl rfl rfl ?_
      refine w_goto (t := 7) rfl rfl ?_
      exact k
    · replace k := k.2 c5
      refine w_aload_n (q := 190) rfl rfl rfl ?_
      refine w_iconst (q := 191) rfl rfl ?_
      refine w_callv (q := 194) rfl rfl rfl rfl rfl rfl ?_
      exact k
  · replace k := k.2 c3
    refine w_sipush (q := 35) rfl rfl rfl ?_
    refine w_iconst (q := 36) rfl rfl ?_
    refine w_iload (q := 38) rfl rfl rfl ?_
    refine w_imul (q := 39) rfl rfl ?_
    refine w_iadd (q := 40) rfl rfl ?_
    refine w_istore (q := 42) (L' := [some (.ref 104), some (w_i l1), some (w_i l2), some (w_i l3), some (w_i l4), some (w_i (550 + 3 * l4)), u6, u7]) (M' := []) rfl rfl rfl rfl rfl ?_
    refine w_aload_n (q := 43) rfl rfl rfl ?_
    refine w_gfr (q := 46) rfl rfl rfl rfl (j := 110) rfl ?_
    refine w_iload (q := 48) rfl rfl rfl ?_
    obtain ⟨h6, k⟩ := k
    refine w_iald (q := 49) (n := 2800) (v := I 110 (550 + 3 * l4)) rfl rfl rfl rfl rfl rfl h6 ?_
    refine w_iload_n (q := 50) rfl rfl rfl ?_
    obtain ⟨h7, h8, k⟩ := k
    refine w_ceq (t := 56) (q := 53) rfl rfl rfl h7 h8 (fun c9 => ?_) (fun c9 => ?_)
    · replace k := k.1 c9
      refine w_aload_n (q := 57) rfl rfl rfl ?_
      refine w_gfr (q := 60) rfl rfl rfl rfl (j := 110) rfl ?_
      refine w_iload (q := 62) rfl rfl rfl ?_
      refine w_iconst (q := 63) rfl rfl ?_
      refine w_iadd (q := 64) rfl rfl ?_
      obtain ⟨h10, k⟩ := k
      refine w_iald (q := 65) (n := 2800) (v := I 110 (550 + 3 * l4 + 1)) rfl rfl rfl rfl rfl rfl h10 ?_
      refine w_istore (q := 67) (L' := [some (.ref 104), some (w_i l1), some (w_i l2), some (w_i l3), some (w_i l4), some (w_i (550 + 3 * l4)), some (w_i (I 110 (550 + 3 * l4 + 1))), u7]) (M' := []) rfl rfl rfl rfl rfl ?_
      refine w_aload_n (q := 68) rfl rfl rfl ?_
      refine w_gfr (q := 71) rfl rfl rfl rfl (j := 110) rfl ?_
      refine w_iload (q := 73) rfl rfl rfl ?_
      refine w_iconst (q := 74) rfl rfl ?_
      refine w_iadd (q := 75) rfl rfl ?_
      obtain ⟨h11, k⟩ := k
      refine w_iald (q := 76) (n := 2800) (v := I 110 (550 + 3 * l4 + 2)) rfl rfl rfl rfl rfl rfl h11 ?_
      refine w_istore (q := 78) (L' := [some (.ref 104), some (w_i l1), some (w_i l2), some (w_i l3), some (w_i l4), some (w_i (550 + 3 * l4)), some (w_i (I 110 (550 + 3 * l4 + 1))), some (w_i (I 110 (550 + 3 * l4 + 2)))]) (M' := []) rfl rfl rfl rfl rfl ?_
      refine w_aload_n (q := 79) rfl rfl rfl ?_
      refine w_iload (q := 81) rfl rfl rfl ?_
      refine w_callv (q := 84) rfl rfl rfl rfl rfl rfl ?_
      exact k
    · replace k := k.2 c9
      refine w_goto (t := 179) rfl rfl ?_
      refine w_iinc (q := 182) (L' := [some (.ref 104), some (w_i l1), some (w_i l2), some (w_i l3), some (w_i (l4 + 1)), some (w_i (550 + 3 * l4)), u6, u7]) (M' := []) rfl rfl rfl rfl rfl rfl ?_
      refine w_goto (t := 20) rfl rfl ?_
      exact k
theorem b266_194 {xs : Nat → Int32} {xl : Nat} {I J : w_I} {b : Bool} {Q : Option Value → w_I → w_I → Bool → Prop} {l1 l3 s0 : Int} {u2 u4 u5 u6 u7 : Option Value} (k : ((-2147483648 ≤ s0 ∧ s0 < 2147483648) ∧ ((s0 ≤ 0 → w_T xs xl 266 7 [some (.ref 104), some (w_i (l1 + 1)), u2, some (w_i l3), u4, u5, u6, u7] [] [] I J b Q) ∧ (¬ s0 ≤ 0 → Q (some (w_i (10 * l3 + 4))) I J b)))) : w_T xs xl 266 194 [some (.ref 104), some (w_i l1), u2, some (w_i l3), u4, u5, u6, u7] [] [w_i s0] I J b Q := by
  obtain ⟨h1, k⟩ := k
  refine w_zle (t := 204) (q := 197) rfl rfl rfl h1 (fun c2 => ?_) (fun c2 => ?_)
  · replace k := k.1 c2
    refine w_iinc (q := 207) (L' := [some (.ref 104), some (w_i (l1 + 1)), u2, some (w_i l3), u4, u5, u6, u7]) (M' := []) rfl rfl rfl rfl rfl rfl ?_
    refine w_goto (t := 7) rfl rfl ?_
    exact k
  · replace k := k.2 c2
    refine w_bipush (q := 199) rfl rfl rfl ?_
    refine w_iload_n (q := 200) rfl rfl rfl ?_
    refine w_imul (q := 201) rfl rfl ?_
    refine w_iconst (q := 202) rfl rfl ?_
    refine w_iadd (q := 203) rfl rfl ?_
    exact w_iret rfl rfl k
theorem b266_84 {xs : Nat → Int32} {xl : Nat} {I J : w_I} {b : Bool} {Q : Option Value → w_I → w_I → Bool → Prop} {l1 l2 l4 l6 l7 s0 : Int} {u3 u5 : Option Value} (k : ((-2147483648 ≤ s0 ∧ s0 < 2147483648) ∧ ((s0 = 0 → Q (some (w_i (10 * l4 + 1))) I J b) ∧ (¬ s0 = 0 → w_C xs xl 213 [.ref 104, w_i l6] I J b (fun v Ic Jc bc => w_T xs xl 266 93 [some (.ref 104), some (w_i l1), some (w_i l2), u3, some (w_i l4), u5, some (w_i l6), some (w_i l7)] [] (w_pv v []) Ic Jc bc Q))))) : w_T xs xl 266 84 [some (.ref 104), some (w_i l1), some (w_i l2), u3, some (w_i l4), u5, some (w_i l6), some (w_i l7)] [] [w_i s0] I J b Q := by
  obtain ⟨h1, k⟩ := k
  refine w_zeq (t := 96) (q := 87) rfl rfl rfl h1 (fun c2 => ?_) (fun c2 => ?_)
  · replace k := k.1 c2
    refine w_bipush (q := 98) rfl rfl rfl ?_
    refine w_iload (q := 100) rfl rfl rfl ?_
    refine w_imul (q := 101) rfl rfl ?_
    refine w_iconst (q := 102) rfl rfl ?_
    refine w_iadd (q := 103) rfl rfl ?_
    exact w_iret rfl rfl k
  · replace k := k.2 c2
    refine w_aload_n (q := 88) rfl rfl rfl ?_
    refine w_iload (q := 90) rfl rfl rfl ?_
    refine w_callv (q := 93) rfl rfl rfl rfl rfl rfl ?_
    exact k
theorem b266_93 {xs : Nat → Int32} {xl : Nat} {I J : w_I} {b : Bool} {Q : Option Value → w_I → w_I → Bool → Prop} {l1 l2 l4 l6 l7 s0 : Int} {u3 u5 : Option Value} (k : ((-2147483648 ≤ s0 ∧ s0 < 2147483648) ∧ ((0 ≤ s0 → ((-2147483648 ≤ l2 ∧ l2 < 2147483648) ∧ (-2147483648 ≤ I 110 2 ∧ I 110 2 < 2147483648) ∧ ((¬ l2 = I 110 2 → w_C xs xl 214 [.ref 104, w_i l7] I J b (fun v Ic Jc bc => w_T xs xl 266 128 [some (.ref 104), some (w_i l1), some (w_i l2), u3, some (w_i l4), u5, some (w_i l6), some (w_i l7)] [] (w_pv v []) Ic Jc bc Q)) ∧ (l2 = I 110 2 → Q (some (w_i (10 * l4 + 2))) I J b)))) ∧ (¬ 0 ≤ s0 → Q (some (w_i (10 * l4 + 1))) I J b)))) : w_T xs xl 266 93 [some (.ref 104), some (w_i l1), some (w_i l2), u3, some (w_i l4), u5, some (w_i l6), some (w_i l7)] [] [w_i s0] I J b Q := by
  obtain ⟨h1, k⟩ := k
  refine w_zge (t := 104) (q := 96) rfl rfl rfl h1 (fun c2 => ?_) (fun c2 => ?_)
  · replace k := k.1 c2
    refine w_iload_n (q := 105) rfl rfl rfl ?_
    refine w_aload_n (q := 106) rfl rfl rfl ?_
    refine w_gfr (q := 109) rfl rfl rfl rfl (j := 110) rfl ?_
    refine w_iconst (q := 110) rfl rfl ?_
    refine w_iald (q := 111) (n := 2800) (v := I 110 2) rfl rfl rfl rfl rfl rfl (by decide) ?_
    obtain ⟨h3, h4, k⟩ := k
    refine w_cne (t := 122) (q := 114) rfl rfl rfl h3 h4 (fun c5 => ?_) (fun c5 => ?_)
    · replace k := k.1 c5
      refine w_aload_n (q := 123) rfl rfl rfl ?_
      refine w_iload (q := 125) rfl rfl rfl ?_
      refine w_callv (q := 128) rfl rfl rfl rfl rfl rfl ?_
      exact k
    · replace k := k.2 c5
      refine w_bipush (q := 116) rfl rfl rfl ?_
      refine w_iload (q := 118) rfl rfl rfl ?_
      refine w_imul (q := 119) rfl rfl ?_
      refine w_iconst (q := 120) rfl rfl ?_
      refine w_iadd (q := 121) rfl rfl ?_
      exact w_iret rfl rfl k
  · replace k := k.2 c2
    refine w_bipush (q := 98) rfl rfl rfl ?_
    refine w_iload (q := 100) rfl rfl rfl ?_
    refine w_imul (q := 101) rfl rfl ?_
    refine w_iconst (q := 102) rfl rfl ?_
    refine w_iadd (q := 103) rfl rfl ?_
    exact w_iret rfl rfl k
theorem b266_128 {xs : Nat → Int32} {xl : Nat} {I J : w_I} {b : Bool} {Q : Option Value → w_I → w_I → Bool → Prop} {l1 l2 l4 l6 l7 s0 : Int} {u3 u5 : Option Value} (k : ((-2147483648 ≤ s0 ∧ s0 < 2147483648) ∧ ((s0 < 0 → w_C xs xl 265 [.ref 104, w_i l6, w_i l7] I J b (fun v Ic Jc bc => w_T xs xl 266 152 [some (.ref 104), some (w_i l1), some (w_i l2), u3, some (w_i l4), u5, some (w_i l6), some (w_i l7)] [] (w_pv v [w_i (I 104 54), .ref 104]) Ic Jc bc Q)) ∧ (¬ s0 < 0 → Q (some (w_i (10 * l4 + 3))) I J b)))) : w_T xs xl 266 128 [some (.ref 104), some (w_i l1), some (w_i l2), u3, some (w_i l4), u5, some (w_i l6), some (w_i l7)] [] [w_i s0] I J b Q := by
  obtain ⟨h1, k⟩ := k
  refine w_zlt (t := 139) (q := 131) rfl rfl rfl h1 (fun c2 => ?_) (fun c2 => ?_)
  · replace k := k.1 c2
    refine w_aload_n (q := 140) rfl rfl rfl ?_
    refine w_dup (q := 141) rfl rfl rfl ?_
    refine w_gfi (q := 144) (k' := 54) (v := I 104 54) rfl rfl rfl rfl rfl rfl rfl ?_
    refine w_aload_n (q := 145) rfl rfl rfl ?_
    refine w_iload (q := 147) rfl rfl rfl ?_
    refine w_iload (q := 149) rfl rfl rfl ?_
    refine w_callv (q := 152) rfl rfl rfl rfl rfl rfl ?_
    exact k
  · replace k := k.2 c2
    refine w_bipush (q := 133) rfl rfl rfl ?_
    refine w_iload (q := 135) rfl rfl rfl ?_
    refine w_imul (q := 136) rfl rfl ?_
    refine w_iconst (q := 137) rfl rfl ?_
    refine w_iadd (q := 138) rfl rfl ?_
    exact w_iret rfl rfl k
theorem b266_152 {xs : Nat → Int32} {xl : Nat} {I J : w_I} {b : Bool} {Q : Option Value → w_I → w_I → Bool → Prop} {l1 l2 l4 l6 l7 s1 s2 : Int} {u3 u5 : Option Value} (k : ((0 ≤ 460 + 3 * l6 + 1 ∧ 460 + 3 * l6 + 1 < 2800) ∧ w_T xs xl 266 20 [some (.ref 104), some (w_i l1), some (w_i (l2 + 1)), some (w_i l4), some (w_i (l4 + 1)), u5, some (w_i l6), some (w_i l7)] [] [] (w_U (w_U I 104 54 (s1 + s2)) 110 (460 + 3 * l6 + 1) l7) J b Q)) : w_T xs xl 266 152 [some (.ref 104), some (w_i l1), some (w_i l2), u3, some (w_i l4), u5, some (w_i l6), some (w_i l7)] [] [w_i s2, w_i s1, .ref 104] I J b Q := by
  refine w_iadd (q := 153) rfl rfl ?_
  refine w_pfi (q := 156) (k' := 54) rfl rfl rfl rfl ?_
  refine w_aload_n (q := 157) rfl rfl rfl ?_
  refine w_gfr (q := 160) rfl rfl rfl rfl (j := 110) rfl ?_
  refine w_sipush (q := 163) rfl rfl rfl ?_
  refine w_iconst (q := 164) rfl rfl ?_
  refine w_iload (q := 166) rfl rfl rfl ?_
  refine w_imul (q := 167) rfl rfl ?_
  refine w_iadd (q := 168) rfl rfl ?_
  refine w_iconst (q := 169) rfl rfl ?_
  refine w_iadd (q := 170) rfl rfl ?_
  refine w_iload (q := 172) rfl rfl rfl ?_
  obtain ⟨h1, k⟩ := k
  refine w_iast (q := 173) (n := 2800) rfl rfl rfl rfl rfl h1 ?_
  refine w_iinc (q := 176) (L' := [some (.ref 104), some (w_i l1), some (w_i (l2 + 1)), u3, some (w_i l4), u5, some (w_i l6), some (w_i l7)]) (M' := []) rfl rfl rfl rfl rfl rfl ?_
  refine w_iload (q := 178) rfl rfl rfl ?_
  refine w_istore_n (q := 179) (L' := [some (.ref 104), some (w_i l1), some (w_i (l2 + 1)), some (w_i l4), some (w_i l4), u5, some (w_i l6), some (w_i l7)]) (M' := []) rfl rfl rfl rfl rfl ?_
  refine w_iinc (q := 182) (L' := [some (.ref 104), some (w_i l1), some (w_i (l2 + 1)), some (w_i l4), some (w_i (l4 + 1)), u5, some (w_i l6), some (w_i l7)]) (M' := []) rfl rfl rfl rfl rfl rfl ?_
  refine w_goto (t := 20) rfl rfl ?_
  exact k
theorem e267 {xs : Nat → Int32} {xl : Nat} {I J : w_I} {b : Bool} {Q : Option Value → w_I → w_I → Bool → Prop} (t : w_T xs xl 267 0 [some (.ref 104), none] [] [] I J b Q) : w_C xs xl 267 [.ref 104] I J b Q := w_en rfl t
theorem b267_0 {xs : Nat → Int32} {xl : Nat} {I J : w_I} {b : Bool} {Q : Option Value → w_I → w_I → Bool → Prop} (k : w_C xs xl 263 [.ref 104] I J b (fun v Ic Jc bc => w_T xs xl 267 4 [some (.ref 104), none] [] (w_pv v []) Ic Jc bc Q)) : w_T xs xl 267 0 [some (.ref 104), none] [] [] I J b Q := by
  refine w_aload_n (q := 1) rfl rfl rfl ?_
  refine w_callv (q := 4) rfl rfl rfl rfl rfl rfl ?_
  exact k
theorem b267_4 {xs : Nat → Int32} {xl : Nat} {I J : w_I} {b : Bool} {Q : Option Value → w_I → w_I → Bool → Prop} {u1 : Option Value} (k : w_C xs xl 266 [.ref 104] I J b (fun v Ic Jc bc => w_T xs xl 267 8 [some (.ref 104), u1] [] (w_pv v []) Ic Jc bc Q)) : w_T xs xl 267 4 [some (.ref 104), u1] [] [] I J b Q := by
  refine w_aload_n (q := 5) rfl rfl rfl ?_
  refine w_callv (q := 8) rfl rfl rfl rfl rfl rfl ?_
  exact k
theorem b267_8 {xs : Nat → Int32} {xl : Nat} {I J : w_I} {b : Bool} {Q : Option Value → w_I → w_I → Bool → Prop} {u1 : Option Value} {s0 : Int} (k : w_C xs xl 264 [.ref 104] I J b (fun v Ic Jc bc => w_T xs xl 267 13 [some (.ref 104), some (w_i s0)] [] (w_pv v []) Ic Jc bc Q)) : w_T xs xl 267 8 [some (.ref 104), u1] [] [w_i s0] I J b Q := by
  refine w_istore_n (q := 9) (L' := [some (.ref 104), some (w_i s0)]) (M' := []) rfl rfl rfl rfl rfl ?_
  refine w_aload_n (q := 10) rfl rfl rfl ?_
  refine w_callv (q := 13) rfl rfl rfl rfl rfl rfl ?_
  exact k
theorem b267_13 {xs : Nat → Int32} {xl : Nat} {I J : w_I} {b : Bool} {Q : Option Value → w_I → w_I → Bool → Prop} {l1 : Int} (k : Q (some (w_i l1)) I J b) : w_T xs xl 267 13 [some (.ref 104), some (w_i l1)] [] [] I J b Q := by
  refine w_iload_n (q := 14) rfl rfl rfl ?_
  exact w_iret rfl rfl k
theorem e268 {xs : Nat → Int32} {xl : Nat} {I J : w_I} {b : Bool} {Q : Option Value → w_I → w_I → Bool → Prop} (t : w_T xs xl 268 0 [some (.ref 104)] [] [] I J b Q) : w_C xs xl 268 [.ref 104] I J b Q := w_en rfl t
theorem b268_0 {xs : Nat → Int32} {xl : Nat} {I J : w_I} {b : Bool} {Q : Option Value → w_I → w_I → Bool → Prop} (k : w_C xs xl 263 [.ref 104] I J b (fun v Ic Jc bc => w_T xs xl 268 4 [some (.ref 104)] [] (w_pv v []) Ic Jc bc Q)) : w_T xs xl 268 0 [some (.ref 104)] [] [] I J b Q := by
  refine w_aload_n (q := 1) rfl rfl rfl ?_
  refine w_callv (q := 4) rfl rfl rfl rfl rfl rfl ?_
  exact k
theorem b268_4 {xs : Nat → Int32} {xl : Nat} {I J : w_I} {b : Bool} {Q : Option Value → w_I → w_I → Bool → Prop} (k : w_C xs xl 266 [.ref 104] I J b (fun v Ic Jc bc => w_T xs xl 268 8 [some (.ref 104)] [] (w_pv v []) Ic Jc bc Q)) : w_T xs xl 268 4 [some (.ref 104)] [] [] I J b Q := by
  refine w_aload_n (q := 5) rfl rfl rfl ?_
  refine w_callv (q := 8) rfl rfl rfl rfl rfl rfl ?_
  exact k
theorem b268_8 {xs : Nat → Int32} {xl : Nat} {I J : w_I} {b : Bool} {Q : Option Value → w_I → w_I → Bool → Prop} {s0 : Int} (k : ((-2147483648 ≤ s0 ∧ s0 < 2147483648) ∧ ((s0 = 0 → Q (some (w_i (I 104 54))) (w_U I 110 10 0) J b) ∧ (¬ s0 = 0 → w_C xs xl 264 [.ref 104] I J b (fun v Ic Jc bc => w_T xs xl 268 15 [some (.ref 104)] [] (w_pv v []) Ic Jc bc Q))))) : w_T xs xl 268 8 [some (.ref 104)] [] [w_i s0] I J b Q := by
  obtain ⟨h1, k⟩ := k
  refine w_zeq (t := 18) (q := 11) rfl rfl rfl h1 (fun c2 => ?_) (fun c2 => ?_)
  · replace k := k.1 c2
    refine w_aload_n (q := 19) rfl rfl rfl ?_
    refine w_gfr (q := 22) rfl rfl rfl rfl (j := 110) rfl ?_
    refine w_bipush (q := 24) rfl rfl rfl ?_
    refine w_iconst (q := 25) rfl rfl ?_
    refine w_iast (q := 26) (n := 2800) rfl rfl rfl rfl rfl (by decide) ?_
    refine w_aload_n (q := 27) rfl rfl rfl ?_
    refine w_gfi (q := 30) (k' := 54) (v := I 104 54) rfl rfl rfl rfl rfl rfl rfl ?_
    exact w_iret rfl rfl k
  · replace k := k.2 c2
    refine w_aload_n (q := 12) rfl rfl rfl ?_
    refine w_callv (q := 15) rfl rfl rfl rfl rfl rfl ?_
    exact k
theorem b268_15 {xs : Nat → Int32} {xl : Nat} {I J : w_I} {b : Bool} {Q : Option Value → w_I → w_I → Bool → Prop} (k : Q (some (w_i (-2))) I J b) : w_T xs xl 268 15 [some (.ref 104)] [] [] I J b Q := by
  refine w_bipush (q := 17) rfl rfl rfl ?_
  exact w_iret rfl rfl k
theorem e269 {xs : Nat → Int32} {xl : Nat} {I J : w_I} {b : Bool} {Q : Option Value → w_I → w_I → Bool → Prop} {a1 a2 : Int} (t : w_T xs xl 269 0 [some (.ref 104), some (w_i a1), some (w_i a2)] [] [] I J b Q) : w_C xs xl 269 [.ref 104, w_i a1, w_i a2] I J b Q := w_en rfl t
theorem b269_0 {xs : Nat → Int32} {xl : Nat} {I J : w_I} {b : Bool} {Q : Option Value → w_I → w_I → Bool → Prop} {a1 a2 : Int} (k : w_C xs xl 217 [.ref 104, w_i a1] I J b (fun v Ic Jc bc => w_T xs xl 269 5 [some (.ref 104), some (w_i a1), some (w_i a2)] [] (w_pv v []) Ic Jc bc Q)) : w_T xs xl 269 0 [some (.ref 104), some (w_i a1), some (w_i a2)] [] [] I J b Q := by
  refine w_aload_n (q := 1) rfl rfl rfl ?_
  refine w_iload_n (q := 2) rfl rfl rfl ?_
  refine w_callv (q := 5) rfl rfl rfl rfl rfl rfl ?_
  exact k
theorem b269_5 {xs : Nat → Int32} {xl : Nat} {I J : w_I} {b : Bool} {Q : Option Value → w_I → w_I → Bool → Prop} {l1 l2 : Int} (k : w_C xs xl 204 [.ref 104] I J b (fun v Ic Jc bc => w_T xs xl 269 9 [some (.ref 104), some (w_i l1), some (w_i l2)] [] (w_pv v []) Ic Jc bc Q)) : w_T xs xl 269 5 [some (.ref 104), some (w_i l1), some (w_i l2)] [] [] I J b Q := by
  refine w_aload_n (q := 6) rfl rfl rfl ?_
  refine w_callv (q := 9) rfl rfl rfl rfl rfl rfl ?_
  exact k
theorem b269_9 {xs : Nat → Int32} {xl : Nat} {I J : w_I} {b : Bool} {Q : Option Value → w_I → w_I → Bool → Prop} {l1 l2 : Int} (k : (((0 : Int) ≤ I 110 9 ∧ I 110 9 < 2147483648 ∧ (0 : Int) < 12 ∧ 12 < (2147483648 : Int)) ∧ ((0 ≤ 460 + 3 * l1 + 2 ∧ 460 + 3 * l1 + 2 < 2800) ∧ ((-2147483648 ≤ I 110 (460 + 3 * l1 + 2) ∧ I 110 (460 + 3 * l1 + 2) < 2147483648) ∧ (-2147483648 ≤ l2 ∧ l2 < 2147483648) ∧ ((¬ I 110 (460 + 3 * l1 + 2) = l2 → ((0 ≤ 50 + l2 ∧ 50 + l2 < 2800) ∧ w_C xs xl 208 [.ref 104, w_i 1, w_i (I 110 (50 + l2)), w_i 999] (w_U (w_U (w_U (w_U (w_U (w_U (w_U I 124 0 (I 104 35)) 124 1 (I 104 33)) 124 2 (I 104 34)) 124 3 (I 110 9 % 12)) 124 5 l2) 124 8 0) 124 9 (I 110 (50 + l2))) J b (fun v Ic Jc bc => w_T xs xl 269 125 [some (.ref 104), some (w_i l1), some (w_i l2)] [] (w_pv v []) Ic Jc bc Q))) ∧ (I 110 (460 + 3 * l1 + 2) = l2 → ((0 ≤ 50 + l2 ∧ 50 + l2 < 2800) ∧ w_C xs xl 208 [.ref 104, w_i 1, w_i (I 110 (50 + l2)), w_i 999] (w_U (w_U (w_U (w_U (w_U (w_U (w_U I 124 0 (I 104 35)) 124 1 (I 104 33)) 124 2 (I 104 34)) 124 3 (I 110 9 % 12)) 124 5 l2) 124 8 1) 124 9 (I 110 (50 + l2))) J b (fun v Ic Jc bc => w_T xs xl 269 125 [some (.ref 104), some (w_i l1), some (w_i l2)] [] (w_pv v []) Ic Jc bc Q)))))))) : w_T xs xl 269 9 [some (.ref 104), some (w_i l1), some (w_i l2)] [] [] I J b Q := by
  refine w_aload_n (q := 10) rfl rfl rfl ?_
  refine w_gfr (q := 13) rfl rfl rfl rfl (j := 124) rfl ?_
  refine w_iconst (q := 14) rfl rfl ?_
  refine w_aload_n (q := 15) rfl rfl rfl ?_
  refine w_gfi (q := 18) (k' := 35) (v := I 104 35) rfl rfl rfl rfl rfl rfl rfl ?_
  refine w_iast (q := 19) (n := 10) rfl rfl rfl rfl rfl (by decide) ?_
  refine w_aload_n (q := 20) rfl rfl rfl ?_
  refine w_gfr (q := 23) rfl rfl rfl rfl (j := 124) rfl ?_
  refine w_iconst (q := 24) rfl rfl ?_
  refine w_aload_n (q := 25) rfl rfl rfl ?_
  refine w_gfi (q := 28) (k' := 33) (v := I 104 33) rfl rfl rfl rfl rfl rfl rfl ?_
  refine w_iast (q := 29) (n := 10) rfl rfl rfl rfl rfl (by decide) ?_
  refine w_aload_n (q := 30) rfl rfl rfl ?_
  refine w_gfr (q := 33) rfl rfl rfl rfl (j := 124) rfl ?_
  refine w_iconst (q := 34) rfl rfl ?_
  refine w_aload_n (q := 35) rfl rfl rfl ?_
  refine w_gfi (q := 38) (k' := 34) (v := I 104 34) rfl rfl rfl rfl rfl rfl rfl ?_
  refine w_iast (q := 39) (n := 10) rfl rfl rfl rfl rfl (by decide) ?_
  refine w_aload_n (q := 40) rfl rfl rfl ?_
  refine w_gfr (q := 43) rfl rfl rfl rfl (j := 124) rfl ?_
  refine w_iconst (q := 44) rfl rfl ?_
  refine w_aload_n (q := 45) rfl rfl rfl ?_
  refine w_gfr (q := 48) rfl rfl rfl rfl (j := 110) rfl ?_
  refine w_bipush (q := 50) rfl rfl rfl ?_
  refine w_iald (q := 51) (n := 2800) (v := I 110 9) rfl rfl rfl rfl rfl rfl (by decide) ?_
  refine w_bipush (q := 53) rfl rfl rfl ?_
  obtain ⟨h1, k⟩ := k
  refine w_irem (q := 54) rfl rfl h1 ?_
  refine w_iast (q := 55) (n := 10) rfl rfl rfl rfl rfl (by decide) ?_
  refine w_aload_n (q := 56) rfl rfl rfl ?_
  refine w_gfr (q := 59) rfl rfl rfl rfl (j := 124) rfl ?_
  refine w_iconst (q := 60) rfl rfl ?_
  refine w_iload_n (q := 61) rfl rfl rfl ?_
  refine w_iast (q := 62) (n := 10) rfl rfl rfl rfl rfl (by decide) ?_
  refine w_aload_n (q := 63) rfl rfl rfl ?_
  refine w_gfr (q := 66) rfl rfl rfl rfl (j := 124) rfl ?_
  refine w_bipush (q := 68) rfl rfl rfl ?_
  refine w_aload_n (q := 69) rfl rfl rfl ?_
  refine w_gfr (q := 72) rfl rfl rfl rfl (j := 110) rfl ?_
  refine w_sipush (q := 75) rfl rfl rfl ?_
  refine w_iconst (q := 76) rfl rfl ?_
  refine w_iload_n (q := 77) rfl rfl rfl ?_
  refine w_imul (q := 78) rfl rfl ?_
  refine w_iadd (q := 79) rfl rfl ?_
  refine w_iconst (q := 80) rfl rfl ?_
  refine w_iadd (q := 81) rfl rfl ?_
  obtain ⟨h2, k⟩ := k
  refine w_iald (q := 82) (n := 2800) (v := I 110 (460 + 3 * l1 + 2)) rfl rfl rfl rfl rfl rfl h2 ?_
  refine w_iload_n (q := 83) rfl rfl rfl ?_
  obtain ⟨h3, h4, k⟩ := k
  refine w_cne (t := 90) (q := 86) rfl rfl rfl h3 h4 (fun c5 => ?_) (fun c5 => ?_)
  · replace k := k.1 c5
    refine w_iconst (q := 91) rfl rfl ?_
    refine w_iast (q := 92) (n := 10) rfl rfl rfl rfl rfl (by decide) ?_
    refine w_aload_n (q := 93) rfl rfl rfl ?_
    refine w_gfr (q := 96) rfl rfl rfl rfl (j := 124) rfl ?_
    refine w_bipush (q := 98) rfl rfl rfl ?_
    refine w_aload_n (q := 99) rfl rfl rfl ?_
    refine w_gfr (q := 102) rfl rfl rfl rfl (j := 110) rfl ?_
    refine w_bipush (q := 104) rfl rfl rfl ?_
    refine w_iload_n (q := 105) rfl rfl rfl ?_
    refine w_iadd (q := 106) rfl rfl ?_
    obtain ⟨h6, k⟩ := k
    refine w_iald (q := 107) (n := 2800) (v := I 110 (50 + l2)) rfl rfl rfl rfl rfl rfl h6 ?_
    refine w_iast (q := 108) (n := 10) rfl rfl rfl rfl rfl (by decide) ?_
    refine w_aload_n (q := 109) rfl rfl rfl ?_
    refine w_iconst (q := 110) rfl rfl ?_
    refine w_aload_n (q := 111) rfl rfl rfl ?_
    refine w_gfr (q := 114) rfl rfl rfl rfl (j := 110) rfl ?_
    refine w_bipush (q := 116) rfl rfl rfl ?_
    refine w_iload_n (q := 117) rfl rfl rfl ?_
    refine w_iadd (q := 118) rfl rfl ?_
    refine w_iald (q := 119) (n := 2800) (v := I 110 (50 + l2)) rfl rfl rfl rfl rfl rfl h6 ?_
    refine w_sipush (q := 122) rfl rfl rfl ?_
    refine w_callv (q := 125) rfl rfl rfl rfl rfl rfl ?_
    exact k
  · replace k := k.2 c5
    refine w_iconst (q := 87) rfl rfl ?_
    refine w_goto (t := 91) rfl rfl ?_
    refine w_iast (q := 92) (n := 10) rfl rfl rfl rfl rfl (by decide) ?_
    refine w_aload_n (q := 93) rfl rfl rfl ?_
    refine w_gfr (q := 96) rfl rfl rfl rfl (j := 124) rfl ?_
    refine w_bipush (q := 98) rfl rfl rfl ?_
    refine w_aload_n (q := 99) rfl rfl rfl ?_
    refine w_gfr (q := 102) rfl rfl rfl rfl (j := 110) rfl ?_
    refine w_bipush (q := 104) rfl rfl rfl ?_
    refine w_iload_n (q := 105) rfl rfl rfl ?_
    refine w_iadd (q := 106) rfl rfl ?_
    obtain ⟨h7, k⟩ := k
    refine w_iald (q := 107) (n := 2800) (v := I 110 (50 + l2)) rfl rfl rfl rfl rfl rfl h7 ?_
    refine w_iast (q := 108) (n := 10) rfl rfl rfl rfl rfl (by decide) ?_
    refine w_aload_n (q := 109) rfl rfl rfl ?_
    refine w_iconst (q := 110) rfl rfl ?_
    refine w_aload_n (q := 111) rfl rfl rfl ?_
    refine w_gfr (q := 114) rfl rfl rfl rfl (j := 110) rfl ?_
    refine w_bipush (q := 116) rfl rfl rfl ?_
    refine w_iload_n (q := 117) rfl rfl rfl ?_
    refine w_iadd (q := 118) rfl rfl ?_
    refine w_iald (q := 119) (n := 2800) (v := I 110 (50 + l2)) rfl rfl rfl rfl rfl rfl h7 ?_
    refine w_sipush (q := 122) rfl rfl rfl ?_
    refine w_callv (q := 125) rfl rfl rfl rfl rfl rfl ?_
    exact k
theorem b269_125 {xs : Nat → Int32} {xl : Nat} {I J : w_I} {b : Bool} {Q : Option Value → w_I → w_I → Bool → Prop} {u1 u2 : Option Value} {s0 : Int} (k : Q (some (w_i s0)) I J b) : w_T xs xl 269 125 [some (.ref 104), u1, u2] [] [w_i s0] I J b Q := by
  exact w_iret rfl rfl k
theorem e270 {xs : Nat → Int32} {xl : Nat} {I J : w_I} {b : Bool} {Q : Option Value → w_I → w_I → Bool → Prop} {a1 a2 : Int} (t : w_T xs xl 270 0 [some (.ref 104), some (w_i a1), some (w_i a2)] [] [] I J b Q) : w_C xs xl 270 [.ref 104, w_i a1, w_i a2] I J b Q := w_en rfl t
theorem b270_0 {xs : Nat → Int32} {xl : Nat} {I J : w_I} {b : Bool} {Q : Option Value → w_I → w_I → Bool → Prop} {a1 a2 : Int} (k : w_C xs xl 211 [.ref 104, w_i a1] I J b (fun v Ic Jc bc => w_T xs xl 270 5 [some (.ref 104), some (w_i a1), some (w_i a2)] [] (w_pv v []) Ic Jc bc Q)) : w_T xs xl 270 0 [some (.ref 104), some (w_i a1), some (w_i a2)] [] [] I J b Q := by
  refine w_aload_n (q := 1) rfl rfl rfl ?_
  refine w_iload_n (q := 2) rfl rfl rfl ?_
  refine w_callv (q := 5) rfl rfl rfl rfl rfl rfl ?_
  exact k
theorem b270_5 {xs : Nat → Int32} {xl : Nat} {I J : w_I} {b : Bool} {Q : Option Value → w_I → w_I → Bool → Prop} {l1 l2 s0 : Int} (k : ((-2147483648 ≤ s0 ∧ s0 < 2147483648) ∧ ((s0 = 0 → Q (some (w_i (-1))) I J b) ∧ (¬ s0 = 0 → w_C xs xl 212 [.ref 104, w_i l2] I J b (fun v Ic Jc bc => w_T xs xl 270 13 [some (.ref 104), some (w_i l1), some (w_i l2)] [] (w_pv v []) Ic Jc bc Q))))) : w_T xs xl 270 5 [some (.ref 104), some (w_i l1), some (w_i l2)] [] [w_i s0] I J b Q := by
  obtain ⟨h1, k⟩ := k
  refine w_zeq (t := 25) (q := 8) rfl rfl rfl h1 (fun c2 => ?_) (fun c2 => ?_)
  · replace k := k.1 c2
    refine w_iconst (q := 26) rfl rfl ?_
    exact w_iret rfl rfl k
  · replace k := k.2 c2
    refine w_aload_n (q := 9) rfl rfl rfl ?_
    refine w_iload_n (q := 10) rfl rfl rfl ?_
    refine w_callv (q := 13) rfl rfl rfl rfl rfl rfl ?_
    exact k
theorem b270_13 {xs : Nat → Int32} {xl : Nat} {I J : w_I} {b : Bool} {Q : Option Value → w_I → w_I → Bool → Prop} {l1 l2 s0 : Int} (k : ((-2147483648 ≤ s0 ∧ s0 < 2147483648) ∧ ((s0 = 0 → Q (some (w_i (-1))) I J b) ∧ (¬ s0 = 0 → w_C xs xl 269 [.ref 104, w_i l1, w_i l2] I J b (fun v Ic Jc bc => w_T xs xl 270 22 [some (.ref 104), some (w_i l1), some (w_i l2)] [] (w_pv v []) Ic Jc bc Q))))) : w_T xs xl 270 13 [some (.ref 104), some (w_i l1), some (w_i l2)] [] [w_i s0] I J b Q := by
  obtain ⟨h1, k⟩ := k
  refine w_zeq (t := 25) (q := 16) rfl rfl rfl h1 (fun c2 => ?_) (fun c2 => ?_)
  · replace k := k.1 c2
    refine w_iconst (q := 26) rfl rfl ?_
    exact w_iret rfl rfl k
  · replace k := k.2 c2
    refine w_aload_n (q := 17) rfl rfl rfl ?_
    refine w_iload_n (q := 18) rfl rfl rfl ?_
    refine w_iload_n (q := 19) rfl rfl rfl ?_
    refine w_callv (q := 22) rfl rfl rfl rfl rfl rfl ?_
    exact k
theorem b270_22 {xs : Nat → Int32} {xl : Nat} {I J : w_I} {b : Bool} {Q : Option Value → w_I → w_I → Bool → Prop} {u1 u2 : Option Value} {s0 : Int} (k : Q (some (w_i s0)) I J b) : w_T xs xl 270 22 [some (.ref 104), u1, u2] [] [w_i s0] I J b Q := by
  refine w_goto (t := 26) rfl rfl ?_
  exact w_iret rfl rfl k
theorem e271 {xs : Nat → Int32} {xl : Nat} {I J : w_I} {b : Bool} {Q : Option Value → w_I → w_I → Bool → Prop} {a1 : Int} (t : w_T xs xl 271 0 [some (.ref 104), some (w_i a1), none, none, none, none, none] [] [] I J b Q) : w_C xs xl 271 [.ref 104, w_i a1] I J b Q := w_en rfl t
theorem b271_0 {xs : Nat → Int32} {xl : Nat} {I J : w_I} {b : Bool} {Q : Option Value → w_I → w_I → Bool → Prop} {a1 : Int} (k : w_C xs xl 209 [w_i a1, w_i 0, w_i 1] I J b (fun v Ic Jc bc => w_T xs xl 271 6 [some (.ref 104), some (w_i a1), none, none, none, none, none] [] (w_pv v []) Ic Jc bc Q)) : w_T xs xl 271 0 [some (.ref 104), some (w_i a1), none, none, none, none, none] [] [] I J b Q := by
  refine w_iload_n (q := 1) rfl rfl rfl ?_
  refine w_iconst (q := 2) rfl rfl ?_
  refine w_iconst (q := 3) rfl rfl ?_
  refine w_call (q := 6) rfl rfl rfl rfl rfl ?_
  exact k
theorem b271_6 {xs : Nat → Int32} {xl : Nat} {I J : w_I} {b : Bool} {Q : Option Value → w_I → w_I → Bool → Prop} {l1 s0 : Int} {u2 u3 u4 u5 u6 : Option Value} (k : ((-2147483648 ≤ s0 ∧ s0 < 2147483648) ∧ ((¬ s0 = 0 → w_T xs xl 271 18 [some (.ref 104), some (w_i l1), some (w_i 0), some (w_i 0), some (w_i 0), u5, u6] [] [] I J b Q) ∧ (s0 = 0 → Q (some (w_i (-1))) I J b)))) : w_T xs xl 271 6 [some (.ref 104), some (w_i l1), u2, u3, u4, u5, u6] [] [w_i s0] I J b Q := by
  obtain ⟨h1, k⟩ := k
  refine w_zne (t := 11) (q := 9) rfl rfl rfl h1 (fun c2 => ?_) (fun c2 => ?_)
  · replace k := k.1 c2
    refine w_iconst (q := 12) rfl rfl ?_
    refine w_istore_n (q := 13) (L' := [some (.ref 104), some (w_i l1), some (w_i 0), u3, u4, u5, u6]) (M' := []) rfl rfl rfl rfl rfl ?_
    refine w_iconst (q := 14) rfl rfl ?_
    refine w_istore_n (q := 15) (L' := [some (.ref 104), some (w_i l1), some (w_i 0), some (w_i 0), u4, u5, u6]) (M' := []) rfl rfl rfl rfl rfl ?_
    refine w_iconst (q := 16) rfl rfl ?_
    refine w_istore (q := 18) (L' := [some (.ref 104), some (w_i l1), some (w_i 0), some (w_i 0), some (w_i 0), u5, u6]) (M' := []) rfl rfl rfl rfl rfl ?_
    exact k
  · replace k := k.2 c2
    refine w_iconst (q := 10) rfl rfl ?_
    exact w_iret rfl rfl k
theorem b271_18 {xs : Nat → Int32} {xl : Nat} {I J : w_I} {b : Bool} {Q : Option Value → w_I → w_I → Bool → Prop} {l1 l2 l3 l4 : Int} {u5 u6 : Option Value} (k : ((-2147483648 ≤ l4 ∧ l4 < 2147483648) ∧ (-2147483648 ≤ I 110 8 ∧ I 110 8 < 2147483648) ∧ ((I 110 8 ≤ l4 → ((-2147483648 ≤ l2 ∧ l2 < 2147483648) ∧ ((¬ l2 = 0 → ((-2147483648 ≤ l1 ∧ l1 < 2147483648) ∧ ((¬ l1 = 0 → Q (some (w_i l3)) I J b) ∧ (l1 = 0 → Q (some (w_i l2)) I J b)))) ∧ (l2 = 0 → Q (some (w_i (-2))) I J b)))) ∧ (¬ I 110 8 ≤ l4 → w_T xs xl 271 36 [some (.ref 104), some (w_i l1), some (w_i l2), some (w_i l3), some (w_i l4), some (w_i (l4 + 1)), u6] [] [] I J b Q)))) : w_T xs xl 271 18 [some (.ref 104), some (w_i l1), some (w_i l2), some (w_i l3), some (w_i l4), u5, u6] [] [] I J b Q := by
  refine w_iload (q := 20) rfl rfl rfl ?_
  refine w_aload_n (q := 21) rfl rfl rfl ?_
  refine w_gfr (q := 24) rfl rfl rfl rfl (j := 110) rfl ?_
  refine w_bipush (q := 26) rfl rfl rfl ?_
  refine w_iald (q := 27) (n := 2800) (v := I 110 8) rfl rfl rfl rfl rfl rfl (by decide) ?_
  obtain ⟨h1, h2, k⟩ := k
  refine w_cge (t := 188) (q := 30) rfl rfl rfl h1 h2 (fun c3 => ?_) (fun c3 => ?_)
  · replace k := k.1 c3
    refine w_iload_n (q := 189) rfl rfl rfl ?_
    obtain ⟨h4, k⟩ := k
    refine w_zne (t := 197) (q := 192) rfl rfl rfl h4 (fun c5 => ?_) (fun c5 => ?_)
    · replace k := k.1 c5
      refine w_iload_n (q := 198) rfl rfl rfl ?_
      obtain ⟨h6, k⟩ := k
      refine w_zne (t := 205) (q := 201) rfl rfl rfl h6 (fun c7 => ?_) (fun c7 => ?_)
      · replace k := k.1 c7
        refine w_iload_n (q := 206) rfl rfl rfl ?_
        exact w_iret rfl rfl k
      · replace k := k.2 c7
        refine w_iload_n (q := 202) rfl rfl rfl ?_
        refine w_goto (t := 206) rfl rfl ?_
        exact w_iret rfl rfl k
    · replace k := k.2 c5
      refine w_bipush (q := 194) rfl rfl rfl ?_
      refine w_goto (t := 206) rfl rfl ?_
      exact w_iret rfl rfl k
  · replace k := k.2 c3
    refine w_iload (q := 32) rfl rfl rfl ?_
    refine w_iconst (q := 33) rfl rfl ?_
    refine w_iadd (q := 34) rfl rfl ?_
    refine w_istore (q := 36) (L' := [some (.ref 104), some (w_i l1), some (w_i l2), some (w_i l3), some (w_i l4), some (w_i (l4 + 1)), u6]) (M' := []) rfl rfl rfl rfl rfl ?_
    exact k
theorem b271_36 {xs : Nat → Int32} {xl : Nat} {I J : w_I} {b : Bool} {Q : Option Value → w_I → w_I → Bool → Prop} {l1 l2 l3 l4 l5 : Int} {u6 : Option Value} (k : ((-2147483648 ≤ l5 ∧ l5 < 2147483648) ∧ (-2147483648 ≤ I 110 8 ∧ I 110 8 < 2147483648) ∧ ((I 110 8 ≤ l5 → w_T xs xl 271 18 [some (.ref 104), some (w_i l1), some (w_i l2), some (w_i l3), some (w_i (l4 + 1)), some (w_i l5), u6] [] [] I J b Q) ∧ (¬ I 110 8 ≤ l5 → w_C xs xl 211 [.ref 104, w_i l4] I J b (fun v Ic Jc bc => w_T xs xl 271 54 [some (.ref 104), some (w_i l1), some (w_i l2), some (w_i l3), some (w_i l4), some (w_i l5), u6] [] (w_pv v []) Ic Jc bc Q))))) : w_T xs xl 271 36 [some (.ref 104), some (w_i l1), some (w_i l2), some (w_i l3), some (w_i l4), some (w_i l5), u6] [] [] I J b Q := by
  refine w_iload (q := 38) rfl rfl rfl ?_
  refine w_aload_n (q := 39) rfl rfl rfl ?_
  refine w_gfr (q := 42) rfl rfl rfl rfl (j := 110) rfl ?_
  refine w_bipush (q := 44) rfl rfl rfl ?_
  refine w_iald (q := 45) (n := 2800) (v := I 110 8) rfl rfl rfl rfl rfl rfl (by decide) ?_
  obtain ⟨h1, h2, k⟩ := k
  refine w_cge (t := 182) (q := 48) rfl rfl rfl h1 h2 (fun c3 => ?_) (fun c3 => ?_)
  · replace k := k.1 c3
    refine w_iinc (q := 185) (L' := [some (.ref 104), some (w_i l1), some (w_i l2), some (w_i l3), some (w_i (l4 + 1)), some (w_i l5), u6]) (M' := []) rfl rfl rfl rfl rfl rfl ?_
    refine w_goto (t := 18) rfl rfl ?_
    exact k
  · replace k := k.2 c3
    refine w_aload_n (q := 49) rfl rfl rfl ?_
    refine w_iload (q := 51) rfl rfl rfl ?_
    refine w_callv (q := 54) rfl rfl rfl rfl rfl rfl ?_
    exact k
theorem b271_54 {xs : Nat → Int32} {xl : Nat} {I J : w_I} {b : Bool} {Q : Option Value → w_I → w_I → Bool → Prop} {l1 l2 l3 l4 l5 s0 : Int} {u6 : Option Value} (k : ((-2147483648 ≤ s0 ∧ s0 < 2147483648) ∧ ((s0 = 0 → w_T xs xl 271 36 [some (.ref 104), some (w_i l1), some (w_i l2), some (w_i l3), some (w_i l4), some (w_i (l5 + 1)), u6] [] [] I J b Q) ∧ (¬ s0 = 0 → w_C xs xl 211 [.ref 104, w_i l5] I J b (fun v Ic Jc bc => w_T xs xl 271 63 [some (.ref 104), some (w_i l1), some (w_i l2), some (w_i l3), some (w_i l4), some (w_i l5), u6] [] (w_pv v []) Ic Jc bc Q))))) : w_T xs xl 271 54 [some (.ref 104), some (w_i l1), some (w_i l2), some (w_i l3), some (w_i l4), some (w_i l5), u6] [] [w_i s0] I J b Q := by
  obtain ⟨h1, k⟩ := k
  refine w_zeq (t := 176) (q := 57) rfl rfl rfl h1 (fun c2 => ?_) (fun c2 => ?_)
  · replace k := k.1 c2
    refine w_iinc (q := 179) (L' := [some (.ref 104), some (w_i l1), some (w_i l2), some (w_i l3), some (w_i l4), some (w_i (l5 + 1)), u6]) (M' := []) rfl rfl rfl rfl rfl rfl ?_
    refine w_goto (t := 36) rfl rfl ?_
    exact k
  · replace k := k.2 c2
    refine w_aload_n (q := 58) rfl rfl rfl ?_
    refine w_iload (q := 60) rfl rfl rfl ?_
    refine w_callv (q := 63) rfl rfl rfl rfl rfl rfl ?_
    exact k
theorem b271_63 {xs : Nat → Int32} {xl : Nat} {I J : w_I} {b : Bool} {Q : Option Value → w_I → w_I → Bool → Prop} {l1 l2 l3 l4 l5 s0 : Int} {u6 : Option Value} (k : ((-2147483648 ≤ s0 ∧ s0 < 2147483648) ∧ ((s0 = 0 → w_T xs xl 271 36 [some (.ref 104), some (w_i l1), some (w_i l2), some (w_i l3), some (w_i l4), some (w_i (l5 + 1)), u6] [] [] I J b Q) ∧ (¬ s0 = 0 → w_C xs xl 213 [.ref 104, w_i l4] I J b (fun v Ic Jc bc => w_T xs xl 271 72 [some (.ref 104), some (w_i l1), some (w_i l2), some (w_i l3), some (w_i l4), some (w_i l5), u6] [] (w_pv v []) Ic Jc bc Q))))) : w_T xs xl 271 63 [some (.ref 104), some (w_i l1), some (w_i l2), some (w_i l3), some (w_i l4), some (w_i l5), u6] [] [w_i s0] I J b Q := by
  obtain ⟨h1, k⟩ := k
  refine w_zeq (t := 176) (q := 66) rfl rfl rfl h1 (fun c2 => ?_) (fun c2 => ?_)
  · replace k := k.1 c2
    refine w_iinc (q := 179) (L' := [some (.ref 104), some (w_i l1), some (w_i l2), some (w_i l3), some (w_i l4), some (w_i (l5 + 1)), u6]) (M' := []) rfl rfl rfl rfl rfl rfl ?_
    refine w_goto (t := 36) rfl rfl ?_
    exact k
  · replace k := k.2 c2
    refine w_aload_n (q := 67) rfl rfl rfl ?_
    refine w_iload (q := 69) rfl rfl rfl ?_
    refine w_callv (q := 72) rfl rfl rfl rfl rfl rfl ?_
    exact k
theorem b271_72 {xs : Nat → Int32} {xl : Nat} {I J : w_I} {b : Bool} {Q : Option Value → w_I → w_I → Bool → Prop} {l1 l2 l3 l4 l5 s0 : Int} {u6 : Option Value} (k : ((-2147483648 ≤ s0 ∧ s0 < 2147483648) ∧ ((s0 < 0 → w_T xs xl 271 36 [some (.ref 104), some (w_i l1), some (w_i l2), some (w_i l3), some (w_i l4), some (w_i (l5 + 1)), u6] [] [] I J b Q) ∧ (¬ s0 < 0 → w_C xs xl 213 [.ref 104, w_i l5] I J b (fun v Ic Jc bc => w_T xs xl 271 81 [some (.ref 104), some (w_i l1), some (w_i l2), some (w_i l3), some (w_i l4), some (w_i l5), u6] [] (w_pv v []) Ic Jc bc Q))))) : w_T xs xl 271 72 [some (.ref 104), some (w_i l1), some (w_i l2), some (w_i l3), some (w_i l4), some (w_i l5), u6] [] [w_i s0] I J b Q := by
  obtain ⟨h1, k⟩ := k
  refine w_zlt (t := 176) (q := 75) rfl rfl rfl h1 (fun c2 => ?_) (fun c2 => ?_)
  · replace k := k.1 c2
    refine w_iinc (q := 179) (L' := [some (.ref 104), some (w_i l1), some (w_i l2), some (w_i l3), some (w_i l4), some (w_i (l5 + 1)), u6]) (M' := []) rfl rfl rfl rfl rfl rfl ?_
    refine w_goto (t := 36) rfl rfl ?_
    exact k
  · replace k := k.2 c2
    refine w_aload_n (q := 76) rfl rfl rfl ?_
    refine w_iload (q := 78) rfl rfl rfl ?_
    refine w_callv (q := 81) rfl rfl rfl rfl rfl rfl ?_
    exact k
theorem b271_81 {xs : Nat → Int32} {xl : Nat} {I J : w_I} {b : Bool} {Q : Option Value → w_I → w_I → Bool → Prop} {l1 l2 l3 l4 l5 s0 : Int} {u6 : Option Value} (k : ((-2147483648 ≤ s0 ∧ s0 < 2147483648) ∧ ((s0 < 0 → w_T xs xl 271 36 [some (.ref 104), some (w_i l1), some (w_i l2), some (w_i l3), some (w_i l4), some (w_i (l5 + 1)), u6] [] [] I J b Q) ∧ (¬ s0 < 0 → w_C xs xl 218 [.ref 104, w_i l4] I J b (fun v Ic Jc bc => w_T xs xl 271 90 [some (.ref 104), some (w_i l1), some (w_i l2), some (w_i l3), some (w_i l4), some (w_i l5), u6] [] (w_pv v []) Ic Jc bc Q))))) : w_T xs xl 271 81 [some (.ref 104), some (w_i l1), some (w_i l2), some (w_i l3), some (w_i l4), some (w_i l5), u6] [] [w_i s0] I J b Q := by
  obtain ⟨h1, k⟩ := k
  refine w_zlt (t := 176) (q := 84) rfl rfl rfl h1 (fun c2 => ?_) (fun c2 => ?_)
  · replace k := k.1 c2
    refine w_iinc (q := 179) (L' := [some (.ref 104), some (w_i l1), some (w_i l2), some (w_i l3), some (w_i l4), some (w_i (l5 + 1)), u6]) (M' := []) rfl rfl rfl rfl rfl rfl ?_
    refine w_goto (t := 36) rfl rfl ?_
    exact k
  · replace k := k.2 c2
    refine w_aload_n (q := 85) rfl rfl rfl ?_
    refine w_iload (q := 87) rfl rfl rfl ?_
    refine w_callv (q := 90) rfl rfl rfl rfl rfl rfl ?_
    exact k
theorem b271_90 {xs : Nat → Int32} {xl : Nat} {I J : w_I} {b : Bool} {Q : Option Value → w_I → w_I → Bool → Prop} {l1 l2 l3 l4 l5 s0 : Int} {u6 : Option Value} (k : w_C xs xl 218 [.ref 104, w_i l5] I J b (fun v Ic Jc bc => w_T xs xl 271 96 [some (.ref 104), some (w_i l1), some (w_i l2), some (w_i l3), some (w_i l4), some (w_i l5), u6] [] (w_pv v [w_i s0]) Ic Jc bc Q)) : w_T xs xl 271 90 [some (.ref 104), some (w_i l1), some (w_i l2), some (w_i l3), some (w_i l4), some (w_i l5), u6] [] [w_i s0] I J b Q := by
  refine w_aload_n (q := 91) rfl rfl rfl ?_
  refine w_iload (q := 93) rfl rfl rfl ?_
  refine w_callv (q := 96) rfl rfl rfl rfl rfl rfl ?_
  exact k
theorem b271_96 {xs : Nat → Int32} {xl : Nat} {I J : w_I} {b : Bool} {Q : Option Value → w_I → w_I → Bool → Prop} {l1 l2 l3 l4 l5 s0 s1 : Int} {u6 : Option Value} (k : ((-2147483648 ≤ s0 ∧ s0 < 2147483648) ∧ (-2147483648 ≤ s1 ∧ s1 < 2147483648) ∧ ((s0 = s1 → w_C xs xl 213 [.ref 104, w_i l5] I J b (fun v Ic Jc bc => w_T xs xl 271 111 [some (.ref 104), some (w_i l1), some (w_i l2), some (w_i l3), some (w_i l4), some (w_i l5), u6] [] (w_pv v [w_i l4, .ref 104]) Ic Jc bc Q)) ∧ (¬ s0 = s1 → w_T xs xl 271 36 [some (.ref 104), some (w_i l1), some (w_i l2), some (w_i l3), some (w_i l4), some (w_i (l5 + 1)), u6] [] [] I J b Q)))) : w_T xs xl 271 96 [some (.ref 104), some (w_i l1), some (w_i l2), some (w_i l3), some (w_i l4), some (w_i l5), u6] [] [w_i s1, w_i s0] I J b Q := by
  obtain ⟨h1, h2, k⟩ := k
  refine w_ceq (t := 102) (q := 99) rfl rfl rfl h1 h2 (fun c3 => ?_) (fun c3 => ?_)
  · replace k := k.1 c3
    refine w_aload_n (q := 103) rfl rfl rfl ?_
    refine w_iload (q := 105) rfl rfl rfl ?_
    refine w_aload_n (q := 106) rfl rfl rfl ?_
    refine w_iload (q := 108) rfl rfl rfl ?_
    refine w_callv (q := 111) rfl rfl rfl rfl rfl rfl ?_
    exact k
  · replace k := k.2 c3
    refine w_goto (t := 176) rfl rfl ?_
    refine w_iinc (q := 179) (L' := [some (.ref 104), some (w_i l1), some (w_i l2), some (w_i l3), some (w_i l4), some (w_i (l5 + 1)), u6]) (M' := []) rfl rfl rfl rfl rfl rfl ?_
    refine w_goto (t := 36) rfl rfl ?_
    exact k
theorem b271_111 {xs : Nat → Int32} {xl : Nat} {I J : w_I} {b : Bool} {Q : Option Value → w_I → w_I → Bool → Prop} {l1 l2 l3 l4 l5 s1 s2 : Int} {u6 : Option Value} (k : w_C xs xl 269 [.ref 104, w_i s1, w_i s2] I J b (fun v Ic Jc bc => w_T xs xl 271 114 [some (.ref 104), some (w_i l1), some (w_i l2), some (w_i l3), some (w_i l4), some (w_i l5), u6] [] (w_pv v []) Ic Jc bc Q)) : w_T xs xl 271 111 [some (.ref 104), some (w_i l1), some (w_i l2), some (w_i l3), some (w_i l4), some (w_i l5), u6] [] [w_i s2, w_i s1, .ref 104] I J b Q := by
  refine w_callv (q := 114) rfl rfl rfl rfl rfl rfl ?_
  exact k
theorem b271_114 {xs : Nat → Int32} {xl : Nat} {I J : w_I} {b : Bool} {Q : Option Value → w_I → w_I → Bool → Prop} {l1 l2 l3 l4 l5 s0 : Int} {u6 : Option Value} (k : w_C xs xl 213 [.ref 104, w_i l4] I J b (fun v Ic Jc bc => w_T xs xl 271 123 [some (.ref 104), some (w_i l1), some (w_i l2), some (w_i l3), some (w_i l4), some (w_i l5), u6] [] (w_pv v [w_i l5, .ref 104, w_i s0]) Ic Jc bc Q)) : w_T xs xl 271 114 [some (.ref 104), some (w_i l1), some (w_i l2), some (w_i l3), some (w_i l4), some (w_i l5), u6] [] [w_i s0] I J b Q := by
  refine w_aload_n (q := 115) rfl rfl rfl ?_
  refine w_iload (q := 117) rfl rfl rfl ?_
  refine w_aload_n (q := 118) rfl rfl rfl ?_
  refine w_iload (q := 120) rfl rfl rfl ?_
  refine w_callv (q := 123) rfl rfl rfl rfl rfl rfl ?_
  exact k
theorem b271_123 {xs : Nat → Int32} {xl : Nat} {I J : w_I} {b : Bool} {Q : Option Value → w_I → w_I → Bool → Prop} {l1 l2 l3 l4 l5 s0 s2 s3 : Int} {u6 : Option Value} (k : w_C xs xl 269 [.ref 104, w_i s2, w_i s3] I J b (fun v Ic Jc bc => w_T xs xl 271 126 [some (.ref 104), some (w_i l1), some (w_i l2), some (w_i l3), some (w_i l4), some (w_i l5), u6] [] (w_pv v [w_i s0]) Ic Jc bc Q)) : w_T xs xl 271 123 [some (.ref 104), some (w_i l1), some (w_i l2), some (w_i l3), some (w_i l4), some (w_i l5), u6] [] [w_i s3, w_i s2, .ref 104, w_i s0] I J b Q := by
  refine w_callv (q := 126) rfl rfl rfl rfl rfl rfl ?_
  exact k
theorem b271_126 {xs : Nat → Int32} {xl : Nat} {I J : w_I} {b : Bool} {Q : Option Value → w_I → w_I → Bool → Prop} {l1 l2 l3 l4 l5 s0 s1 : Int} {u6 : Option Value} (k : w_C xs xl 213 [.ref 104, w_i l4] I J b (fun v Ic Jc bc => w_T xs xl 271 136 [some (.ref 104), some (w_i l1), some (w_i l2), some (w_i l3), some (w_i l4), some (w_i l5), u6] [] (w_pv v [w_i l4, .ref 104, w_i (s0 + s1)]) Ic Jc bc Q)) : w_T xs xl 271 126 [some (.ref 104), some (w_i l1), some (w_i l2), some (w_i l3), some (w_i l4), some (w_i l5), u6] [] [w_i s1, w_i s0] I J b Q := by
  refine w_iadd (q := 127) rfl rfl ?_
  refine w_aload_n (q := 128) rfl rfl rfl ?_
  refine w_iload (q := 130) rfl rfl rfl ?_
  refine w_aload_n (q := 131) rfl rfl rfl ?_
  refine w_iload (q := 133) rfl rfl rfl ?_
  refine w_callv (q := 136) rfl rfl rfl rfl rfl rfl ?_
  exact k
theorem b271_136 {xs : Nat → Int32} {xl : Nat} {I J : w_I} {b : Bool} {Q : Option Value → w_I → w_I → Bool → Prop} {l1 l2 l3 l4 l5 s0 s2 s3 : Int} {u6 : Option Value} (k : w_C xs xl 269 [.ref 104, w_i s2, w_i s3] I J b (fun v Ic Jc bc => w_T xs xl 271 139 [some (.ref 104), some (w_i l1), some (w_i l2), some (w_i l3), some (w_i l4), some (w_i l5), u6] [] (w_pv v [w_i s0]) Ic Jc bc Q)) : w_T xs xl 271 136 [some (.ref 104), some (w_i l1), some (w_i l2), some (w_i l3), some (w_i l4), some (w_i l5), u6] [] [w_i s3, w_i s2, .ref 104, w_i s0] I J b Q := by
  refine w_callv (q := 139) rfl rfl rfl rfl rfl rfl ?_
  exact k
theorem b271_139 {xs : Nat → Int32} {xl : Nat} {I J : w_I} {b : Bool} {Q : Option Value → w_I → w_I → Bool → Prop} {l1 l2 l3 l4 l5 s0 s1 : Int} {u6 : Option Value} (k : w_C xs xl 213 [.ref 104, w_i l5] I J b (fun v Ic Jc bc => w_T xs xl 271 149 [some (.ref 104), some (w_i l1), some (w_i l2), some (w_i l3), some (w_i l4), some (w_i l5), u6] [] (w_pv v [w_i l5, .ref 104, w_i (s0 - s1)]) Ic Jc bc Q)) : w_T xs xl 271 139 [some (.ref 104), some (w_i l1), some (w_i l2), some (w_i l3), some (w_i l4), some (w_i l5), u6] [] [w_i s1, w_i s0] I J b Q := by
  refine w_isub (q := 140) rfl rfl ?_
  refine w_aload_n (q := 141) rfl rfl rfl ?_
  refine w_iload (q := 143) rfl rfl rfl ?_
  refine w_aload_n (q := 144) rfl rfl rfl ?_
  refine w_iload (q := 146) rfl rfl rfl ?_
  refine w_callv (q := 149) rfl rfl rfl rfl rfl rfl ?_
  exact k
theorem b271_149 {xs : Nat → Int32} {xl : Nat} {I J : w_I} {b : Bool} {Q : Option Value → w_I → w_I → Bool → Prop} {l1 l2 l3 l4 l5 s0 s2 s3 : Int} {u6 : Option Value} (k : w_C xs xl 269 [.ref 104, w_i s2, w_i s3] I J b (fun v Ic Jc bc => w_T xs xl 271 152 [some (.ref 104), some (w_i l1), some (w_i l2), some (w_i l3), some (w_i l4), some (w_i l5), u6] [] (w_pv v [w_i s0]) Ic Jc bc Q)) : w_T xs xl 271 149 [some (.ref 104), some (w_i l1), some (w_i l2), some (w_i l3), some (w_i l4), some (w_i l5), u6] [] [w_i s3, w_i s2, .ref 104, w_i s0] I J b Q := by
  refine w_callv (q := 152) rfl rfl rfl rfl rfl rfl ?_
  exact k
theorem b271_152 {xs : Nat → Int32} {xl : Nat} {I J : w_I} {b : Bool} {Q : Option Value → w_I → w_I → Bool → Prop} {l1 l2 l3 l4 l5 s0 s1 : Int} {u6 : Option Value} (k : ((-2147483648 ≤ s0 - s1 ∧ s0 - s1 < 2147483648) ∧ (-2147483648 ≤ l2 ∧ l2 < 2147483648) ∧ ((l2 < s0 - s1 → w_T xs xl 271 36 [some (.ref 104), some (w_i l1), some (w_i (s0 - s1)), some (w_i (100 * l4 + l5)), some (w_i l4), some (w_i (l5 + 1)), some (w_i (s0 - s1))] [] [] I J b Q) ∧ (¬ l2 < s0 - s1 → w_T xs xl 271 36 [some (.ref 104), some (w_i l1), some (w_i l2), some (w_i l3), some (w_i l4), some (w_i (l5 + 1)), some (w_i (s0 - s1))] [] [] I J b Q)))) : w_T xs xl 271 152 [some (.ref 104), some (w_i l1), some (w_i l2), some (w_i l3), some (w_i l4), some (w_i l5), u6] [] [w_i s1, w_i s0] I J b Q := by
  refine w_isub (q := 153) rfl rfl ?_
  refine w_istore (q := 155) (L' := [some (.ref 104), some (w_i l1), some (w_i l2), some (w_i l3), some (w_i l4), some (w_i l5), some (w_i (s0 - s1))]) (M' := []) rfl rfl rfl rfl rfl ?_
  refine w_iload (q := 157) rfl rfl rfl ?_
  refine w_iload_n (q := 158) rfl rfl rfl ?_
  obtain ⟨h1, h2, k⟩ := k
  refine w_cgt (t := 164) (q := 161) rfl rfl rfl h1 h2 (fun c3 => ?_) (fun c3 => ?_)
  · replace k := k.1 c3
    refine w_iload (q := 166) rfl rfl rfl ?_
    refine w_istore_n (q := 167) (L' := [some (.ref 104), some (w_i l1), some (w_i (s0 - s1)), some (w_i l3), some (w_i l4), some (w_i l5), some (w_i (s0 - s1))]) (M' := []) rfl rfl rfl rfl rfl ?_
    refine w_bipush (q := 169) rfl rfl rfl ?_
    refine w_iload (q := 171) rfl rfl rfl ?_
    refine w_imul (q := 172) rfl rfl ?_
    refine w_iload (q := 174) rfl rfl rfl ?_
    refine w_iadd (q := 175) rfl rfl ?_
    refine w_istore_n (q := 176) (L' := [some (.ref 104), some (w_i l1), some (w_i (s0 - s1)), some (w_i (100 * l4 + l5)), some (w_i l4), some (w_i l5), some (w_i (s0 - s1))]) (M' := []) rfl rfl rfl rfl rfl ?_
    refine w_iinc (q := 179) (L' := [some (.ref 104), some (w_i l1), some (w_i (s0 - s1)), some (w_i (100 * l4 + l5)), some (w_i l4), some (w_i (l5 + 1)), some (w_i (s0 - s1))]) (M' := []) rfl rfl rfl rfl rfl rfl ?_
    refine w_goto (t := 36) rfl rfl ?_
    exact k
  · replace k := k.2 c3
    refine w_goto (t := 176) rfl rfl ?_
    refine w_iinc (q := 179) (L' := [some (.ref 104), some (w_i l1), some (w_i l2), some (w_i l3), some (w_i l4), some (w_i (l5 + 1)), some (w_i (s0 - s1))]) (M' := []) rfl rfl rfl rfl rfl rfl ?_
    refine w_goto (t := 36) rfl rfl ?_
    exact k
theorem e272 {xs : Nat → Int32} {xl : Nat} {I J : w_I} {b : Bool} {Q : Option Value → w_I → w_I → Bool → Prop} {a1 a2 : Int} (t : w_T xs xl 272 0 [some (.ref 104), some (w_i a1), some (w_i a2)] [] [] I J b Q) : w_C xs xl 272 [.ref 104, w_i a1, w_i a2] I J b Q := w_en rfl t
theorem b272_0 {xs : Nat → Int32} {xl : Nat} {I J : w_I} {b : Bool} {Q : Option Value → w_I → w_I → Bool → Prop} {a1 a2 : Int} (k : w_C xs xl 204 [.ref 104] I J b (fun v Ic Jc bc => w_T xs xl 272 4 [some (.ref 104), some (w_i a1), some (w_i a2)] [] (w_pv v []) Ic Jc bc Q)) : w_T xs xl 272 0 [some (.ref 104), some (w_i a1), some (w_i a2)] [] [] I J b Q := by
  refine w_aload_n (q := 1) rfl rfl rfl ?_
  refine w_callv (q := 4) rfl rfl rfl rfl rfl rfl ?_
  exact k
theorem b272_4 {xs : Nat → Int32} {xl : Nat} {I J : w_I} {b : Bool} {Q : Option Value → w_I → w_I → Bool → Prop} {l1 l2 : Int} (k : w_C xs xl 208 [.ref 104, w_i 3, w_i 0, w_i 100] (w_U (w_U I 124 0 l1) 124 2 l2) J b (fun v Ic Jc bc => w_T xs xl 272 26 [some (.ref 104), some (w_i l1), some (w_i l2)] [] (w_pv v []) Ic Jc bc Q)) : w_T xs xl 272 4 [some (.ref 104), some (w_i l1), some (w_i l2)] [] [] I J b Q := by
  refine w_aload_n (q := 5) rfl rfl rfl ?_
  refine w_gfr (q := 8) rfl rfl rfl rfl (j := 124) rfl ?_
  refine w_iconst (q := 9) rfl rfl ?_
  refine w_iload_n (q := 10) rfl rfl rfl ?_
  refine w_iast (q := 11) (n := 10) rfl rfl rfl rfl rfl (by decide) ?_
  refine w_aload_n (q := 12) rfl rfl rfl ?_
  refine w_gfr (q := 15) rfl rfl rfl rfl (j := 124) rfl ?_
  refine w_iconst (q := 16) rfl rfl ?_
  refine w_iload_n (q := 17) rfl rfl rfl ?_
  refine w_iast (q := 18) (n := 10) rfl rfl rfl rfl rfl (by decide) ?_
  refine w_aload_n (q := 19) rfl rfl rfl ?_
  refine w_iconst (q := 20) rfl rfl ?_
  refine w_iconst (q := 21) rfl rfl ?_
  refine w_bipush (q := 23) rfl rfl rfl ?_
  refine w_callv (q := 26) rfl rfl rfl rfl rfl rfl ?_
  exact k
theorem b272_26 {xs : Nat → Int32} {xl : Nat} {I J : w_I} {b : Bool} {Q : Option Value → w_I → w_I → Bool → Prop} {u1 u2 : Option Value} {s0 : Int} (k : Q (some (w_i s0)) I J b) : w_T xs xl 272 26 [some (.ref 104), u1, u2] [] [w_i s0] I J b Q := by
  exact w_iret rfl rfl k
theorem e273 {xs : Nat → Int32} {xl : Nat} {I J : w_I} {b : Bool} {Q : Option Value → w_I → w_I → Bool → Prop} {a1 a2 : Int} (t : w_T xs xl 273 0 [some (.ref 104), some (w_i a1), some (w_i a2), none, none, none, none, none, none, none] [none, none, none, none, none, none, none, none, none, none] [] I J b Q) : w_C xs xl 273 [.ref 104, w_i a1, w_i a2] I J b Q := w_en rfl t
theorem b273_0 {xs : Nat → Int32} {xl : Nat} {I J : w_I} {b : Bool} {Q : Option Value → w_I → w_I → Bool → Prop} {a1 a2 : Int} (k : w_C xs xl 211 [.ref 104, w_i a1] I J b (fun v Ic Jc bc => w_T xs xl 273 5 [some (.ref 104), some (w_i a1), some (w_i a2), none, none, none, none, none, none, none] [none, none, none, none, none, none, none, none, none, none] (w_pv v []) Ic Jc bc Q)) : w_T xs xl 273 0 [some (.ref 104), some (w_i a1), some (w_i a2), none, none, none, none, none, none, none] [none, none, none, none, none, none, none, none, none, none] [] I J b Q := by
  refine w_aload_n (q := 1) rfl rfl rfl ?_
  refine w_iload_n (q := 2) rfl rfl rfl ?_
  refine w_callv (q := 5) rfl rfl rfl rfl rfl rfl ?_
  exact k
theorem b273_5 {xs : Nat → Int32} {xl : Nat} {I J : w_I} {b : Bool} {Q : Option Value → w_I → w_I → Bool → Prop} {l1 l2 s0 : Int} {u3 u4 u5 u6 u7 u8 u9 : Option Value} {m0 m1 m2 m3 m4 m5 m6 m7 m8 m9 : Option Int64} (k : ((-2147483648 ≤ s0 ∧ s0 < 2147483648) ∧ ((s0 = 0 → Q (some (w_l (-1))) I J b) ∧ (¬ s0 = 0 → w_C xs xl 209 [w_i l2, w_i 1, w_i 8] I J b (fun v Ic Jc bc => w_T xs xl 273 15 [some (.ref 104), some (w_i l1), some (w_i l2), u3, u4, u5, u6, u7, u8, u9] [m0, m1, m2, m3, m4, m5, m6, m7, m8, m9] (w_pv v []) Ic Jc bc Q))))) : w_T xs xl 273 5 [some (.ref 104), some (w_i l1), some (w_i l2), u3, u4, u5, u6, u7, u8, u9] [m0, m1, m2, m3, m4, m5, m6, m7, m8, m9] [w_i s0] I J b Q := by
  obtain ⟨h1, k⟩ := k
  refine w_zeq (t := 35) (q := 8) rfl rfl rfl h1 (fun c2 => ?_) (fun c2 => ?_)
  · replace k := k.1 c2
    refine w_ldc2 (q := 38) (n := -1) rfl rfl rfl ?_
    exact w_jret rfl k
  · replace k := k.2 c2
    refine w_iload_n (q := 9) rfl rfl rfl ?_
    refine w_iconst (q := 10) rfl rfl ?_
    refine w_bipush (q := 12) rfl rfl rfl ?_
    refine w_call (q := 15) rfl rfl rfl rfl rfl ?_
    exact k
theorem b273_15 {xs : Nat → Int32} {xl : Nat} {I J : w_I} {b : Bool} {Q : Option Value → w_I → w_I → Bool → Prop} {l1 l2 s0 : Int} {u3 u4 u5 u6 u7 u8 u9 : Option Value} {m0 m1 m2 m3 m4 m5 m6 m7 m8 m9 : Option Int64} (k : ((-2147483648 ≤ s0 ∧ s0 < 2147483648) ∧ ((s0 = 0 → Q (some (w_l (-1))) I J b) ∧ (¬ s0 = 0 → ((0 ≤ 460 + 3 * l1 + 2 ∧ 460 + 3 * l1 + 2 < 2800) ∧ ((-2147483648 ≤ I 110 (460 + 3 * l1 + 2) ∧ I 110 (460 + 3 * l1 + 2) < 2147483648) ∧ ((0 ≤ I 110 (460 + 3 * l1 + 2) → w_C xs xl 214 [.ref 104, w_i (I 110 (460 + 3 * l1 + 2))] I J b (fun v Ic Jc bc => w_T xs xl 273 57 [some (.ref 104), some (w_i l1), some (w_i l2), u3, u4, u5, u6, u7, u8, u9] [m0, m1, m2, m3, m4, m5, m6, m7, m8, m9] (w_pv v []) Ic Jc bc Q)) ∧ (¬ 0 ≤ I 110 (460 + 3 * l1 + 2) → Q (some (w_l (-1))) I J b)))))))) : w_T xs xl 273 15 [some (.ref 104), some (w_i l1), some (w_i l2), u3, u4, u5, u6, u7, u8, u9] [m0, m1, m2, m3, m4, m5, m6, m7, m8, m9] [w_i s0] I J b Q := by
  obtain ⟨h1, k⟩ := k
  refine w_zeq (t := 35) (q := 18) rfl rfl rfl h1 (fun c2 => ?_) (fun c2 => ?_)
  · replace k := k.1 c2
    refine w_ldc2 (q := 38) (n := -1) rfl rfl rfl ?_
    exact w_jret rfl k
  · replace k := k.2 c2
    refine w_aload_n (q := 19) rfl rfl rfl ?_
    refine w_gfr (q := 22) rfl rfl rfl rfl (j := 110) rfl ?_
    refine w_sipush (q := 25) rfl rfl rfl ?_
    refine w_iconst (q := 26) rfl rfl ?_
    refine w_iload_n (q := 27) rfl rfl rfl ?_
    refine w_imul (q := 28) rfl rfl ?_
    refine w_iadd (q := 29) rfl rfl ?_
    refine w_iconst (q := 30) rfl rfl ?_
    refine w_iadd (q := 31) rfl rfl ?_
    obtain ⟨h3, k⟩ := k
    refine w_iald (q := 32) (n := 2800) (v := I 110 (460 + 3 * l1 + 2)) rfl rfl rfl rfl rfl rfl h3 ?_
    obtain ⟨h4, k⟩ := k
    refine w_zge (t := 39) (q := 35) rfl rfl rfl h4 (fun c5 => ?_) (fun c5 => ?_)
    · replace k := k.1 c5
      refine w_aload_n (q := 40) rfl rfl rfl ?_
      refine w_aload_n (q := 41) rfl rfl rfl ?_
      refine w_gfr (q := 44) rfl rfl rfl rfl (j := 110) rfl ?_
      refine w_sipush (q := 47) rfl rfl rfl ?_
      refine w_iconst (q := 48) rfl rfl ?_
      refine w_iload_n (q := 49) rfl rfl rfl ?_
      refine w_imul (q := 50) rfl rfl ?_
      refine w_iadd (q := 51) rfl rfl ?_
      refine w_iconst (q := 52) rfl rfl ?_
      refine w_iadd (q := 53) rfl rfl ?_
      refine w_iald (q := 54) (n := 2800) (v := I 110 (460 + 3 * l1 + 2)) rfl rfl rfl rfl rfl rfl h3 ?_
      refine w_callv (q := 57) rfl rfl rfl rfl rfl rfl ?_
      exact k
    · replace k := k.2 c5
      refine w_ldc2 (q := 38) (n := -1) rfl rfl rfl ?_
      exact w_jret rfl k
theorem b273_57 {xs : Nat → Int32} {xl : Nat} {I J : w_I} {b : Bool} {Q : Option Value → w_I → w_I → Bool → Prop} {l1 l2 s0 : Int} {u3 u4 u5 u6 u7 u8 u9 : Option Value} {m0 m1 m2 m3 m4 m5 m6 m7 m8 m9 : Option Int64} (k : ((-2147483648 ≤ s0 ∧ s0 < 2147483648) ∧ ((s0 < 0 → Q (some (w_l (-2))) I J b) ∧ (¬ s0 < 0 → ((-2147483648 ≤ l1 ∧ l1 < 2147483648) ∧ ((¬ s0 = l1 → w_T xs xl 273 74 [some (.ref 104), some (w_i l1), some (w_i l2), some (w_i s0), some (w_i 0), u5, u6, u7, u8, u9] [m0, m1, none, none, none, m5, m6, m7, m8, m9] [] I J b Q) ∧ (s0 = l1 → Q (some (w_l (-2))) I J b))))))) : w_T xs xl 273 57 [some (.ref 104), some (w_i l1), some (w_i l2), u3, u4, u5, u6, u7, u8, u9] [m0, m1, m2, m3, m4, m5, m6, m7, m8, m9] [w_i s0] I J b Q := by
  refine w_istore_n (q := 58) (L' := [some (.ref 104), some (w_i l1), some (w_i l2), some (w_i s0), u4, u5, u6, u7, u8, u9]) (M' := [m0, m1, none, none, m4, m5, m6, m7, m8, m9]) rfl rfl rfl rfl rfl ?_
  refine w_iload_n (q := 59) rfl rfl rfl ?_
  obtain ⟨h1, k⟩ := k
  refine w_zlt (t := 67) (q := 62) rfl rfl rfl h1 (fun c2 => ?_) (fun c2 => ?_)
  · replace k := k.1 c2
    refine w_ldc2 (q := 70) (n := -2) rfl rfl rfl ?_
    exact w_jret rfl k
  · replace k := k.2 c2
    refine w_iload_n (q := 63) rfl rfl rfl ?_
    refine w_iload_n (q := 64) rfl rfl rfl ?_
    obtain ⟨h3, k⟩ := k
    refine w_cne (t := 71) (q := 67) rfl rfl rfl h1 h3 (fun c4 => ?_) (fun c4 => ?_)
    · replace k := k.1 c4
      refine w_iconst (q := 72) rfl rfl ?_
      refine w_istore (q := 74) (L' := [some (.ref 104), some (w_i l1), some (w_i l2), some (w_i s0), some (w_i 0), u5, u6, u7, u8, u9]) (M' := [m0, m1, none, none, none, m5, m6, m7, m8, m9]) rfl rfl rfl rfl rfl ?_
      exact k
    · replace k := k.2 c4
      refine w_ldc2 (q := 70) (n := -2) rfl rfl rfl ?_
      exact w_jret rfl k
theorem b273_74 {xs : Nat → Int32} {xl : Nat} {I J : w_I} {b : Bool} {Q : Option Value → w_I → w_I → Bool → Prop} {u1 u5 u6 u7 u8 u9 : Option Value} {l2 l3 l4 : Int} {m0 m1 m2 m3 m4 m5 m6 m7 m8 m9 : Option Int64} (k : w_C xs xl 210 [.ref 104, w_i l4] I J b (fun v Ic Jc bc => w_T xs xl 273 80 [some (.ref 104), u1, some (w_i l2), some (w_i l3), some (w_i l4), u5, u6, u7, u8, u9] [m0, m1, m2, m3, m4, m5, m6, m7, m8, m9] (w_pv v []) Ic Jc bc Q)) : w_T xs xl 273 74 [some (.ref 104), u1, some (w_i l2), some (w_i l3), some (w_i l4), u5, u6, u7, u8, u9] [m0, m1, m2, m3, m4, m5, m6, m7, m8, m9] [] I J b Q := by
  refine w_aload_n (q := 75) rfl rfl rfl ?_
  refine w_iload (q := 77) rfl rfl rfl ?_
  refine w_callv (q := 80) rfl rfl rfl rfl rfl rfl ?_
  exact k
theorem b273_80 {xs : Nat → Int32} {xl : Nat} {I J : w_I} {b : Bool} {Q : Option Value → w_I → w_I → Bool → Prop} {u1 u5 u6 u7 u8 u9 : Option Value} {l2 l3 l4 s0 : Int} {m0 m1 m2 m3 m4 m5 m6 m7 m8 m9 : Option Int64} (k : ((-2147483648 ≤ s0 ∧ s0 < 2147483648) ∧ ((s0 = 0 → w_T xs xl 273 74 [some (.ref 104), u1, some (w_i l2), some (w_i l3), some (w_i (l4 + 1)), u5, u6, u7, u8, u9] [m0, m1, m2, none, none, m5, m6, m7, m8, m9] [] I J b Q) ∧ (¬ s0 = 0 → ((0 ≤ 100 + 6 * l4 + 5 ∧ 100 + 6 * l4 + 5 < 2800) ∧ ((-2147483648 ≤ I 110 (100 + 6 * l4 + 5) ∧ I 110 (100 + 6 * l4 + 5) < 2147483648) ∧ (-2147483648 ≤ l3 ∧ l3 < 2147483648) ∧ ((I 110 (100 + 6 * l4 + 5) = l3 → w_T xs xl 273 117 [some (.ref 104), u1, some (w_i l2), some (w_i l3), some (w_i l4), none, none, none, none, some (w_i 0)] [m0, m1, m2, m3, none, some (Int64.ofInt 1), none, some (Int64.ofInt 1), none, none] [] I J b Q) ∧ (¬ I 110 (100 + 6 * l4 + 5) = l3 → w_T xs xl 273 74 [some (.ref 104), u1, some (w_i l2), some (w_i l3), some (w_i (l4 + 1)), u5, u6, u7, u8, u9] [m0, m1, m2, none, none, m5, m6, m7, m8, m9] [] I J b Q)))))))) : w_T xs xl 273 80 [some (.ref 104), u1, some (w_i l2), some (w_i l3), some (w_i l4), u5, u6, u7, u8, u9] [m0, m1, m2, m3, m4, m5, m6, m7, m8, m9] [w_i s0] I J b Q := by
  obtain ⟨h1, k⟩ := k
  refine w_zeq (t := 102) (q := 83) rfl rfl rfl h1 (fun c2 => ?_) (fun c2 => ?_)
  · replace k := k.1 c2
    refine w_iinc (q := 105) (L' := [some (.ref 104), u1, some (w_i l2), some (w_i l3), some (w_i (l4 + 1)), u5, u6, u7, u8, u9]) (M' := [m0, m1, m2, none, none, m5, m6, m7, m8, m9]) rfl rfl rfl rfl rfl rfl ?_
    refine w_goto (t := 74) rfl rfl ?_
    exact k
  · replace k := k.2 c2
    refine w_aload_n (q := 84) rfl rfl rfl ?_
    refine w_gfr (q := 87) rfl rfl rfl rfl (j := 110) rfl ?_
    refine w_bipush (q := 89) rfl rfl rfl ?_
    refine w_bipush (q := 91) rfl rfl rfl ?_
    refine w_iload (q := 93) rfl rfl rfl ?_
    refine w_imul (q := 94) rfl rfl ?_
    refine w_iadd (q := 95) rfl rfl ?_
    refine w_iconst (q := 96) rfl rfl ?_
    refine w_iadd (q := 97) rfl rfl ?_
    obtain ⟨h3, k⟩ := k
    refine w_iald (q := 98) (n := 2800) (v := I 110 (100 + 6 * l4 + 5)) rfl rfl rfl rfl rfl rfl h3 ?_
    refine w_iload_n (q := 99) rfl rfl rfl ?_
    obtain ⟨h4, h5, k⟩ := k
    refine w_ceq (t := 108) (q := 102) rfl rfl rfl h4 h5 (fun c6 => ?_) (fun c6 => ?_)
    · replace k := k.1 c6
      refine w_lconst (q := 109) (k := 1) rfl rfl rfl ?_
      refine w_lstore (q := 111) (L' := [some (.ref 104), u1, some (w_i l2), some (w_i l3), some (w_i l4), none, none, u7, u8, u9]) (M' := [m0, m1, m2, m3, none, some (Int64.ofInt 1), none, m7, m8, m9]) rfl rfl rfl rfl rfl ?_
      refine w_lconst (q := 112) (k := 1) rfl rfl rfl ?_
      refine w_lstore (q := 114) (L' := [some (.ref 104), u1, some (w_i l2), some (w_i l3), some (w_i l4), none, none, none, none, u9]) (M' := [m0, m1, m2, m3, none, some (Int64.ofInt 1), none, some (Int64.ofInt 1), none, m9]) rfl rfl rfl rfl rfl ?_
      refine w_iconst (q := 115) rfl rfl ?_
      refine w_istore (q := 117) (L' := [some (.ref 104), u1, some (w_i l2), some (w_i l3), some (w_i l4), none, none, none, none, some (w_i 0)]) (M' := [m0, m1, m2, m3, none, some (Int64.ofInt 1), none, some (Int64.ofInt 1), none, none]) rfl rfl rfl rfl rfl ?_
      exact k
    · replace k := k.2 c6
      refine w_iinc (q := 105) (L' := [some (.ref 104), u1, some (w_i l2), some (w_i l3), some (w_i (l4 + 1)), u5, u6, u7, u8, u9]) (M' := [m0, m1, m2, none, none, m5, m6, m7, m8, m9]) rfl rfl rfl rfl rfl rfl ?_
      refine w_goto (t := 74) rfl rfl ?_
      exact k
theorem b273_117 {xs : Nat → Int32} {xl : Nat} {I J : w_I} {b : Bool} {Q : Option Value → w_I → w_I → Bool → Prop} {u1 u3 u6 u8 : Option Value} {l2 l4 l9 j5 j7 : Int} {m0 m1 m2 m3 m4 m6 m8 m9 : Option Int64} (k : ((-2147483648 ≤ l9 ∧ l9 < 2147483648) ∧ (-2147483648 ≤ l2 ∧ l2 < 2147483648) ∧ ((l2 ≤ l9 → Q (some (w_l (j5 - j7))) I J b) ∧ (¬ l2 ≤ l9 → w_C xs xl 215 [.ref 104, w_i l4, w_i 0] I J b (fun v Ic Jc bc => w_T xs xl 273 143 [some (.ref 104), u1, some (w_i l2), u3, some (w_i l4), none, none, none, u8, some (w_i l9)] [m0, m1, m2, m3, none, some (Int64.ofInt (j5 * 100)), none, some (Int64.ofInt j7), m8, m9] (w_pv v [.ref 104, w_i 100, w_l j7]) Ic Jc bc Q))))) : w_T xs xl 273 117 [some (.ref 104), u1, some (w_i l2), u3, some (w_i l4), none, u6, none, u8, some (w_i l9)] [m0, m1, m2, m3, m4, some (Int64.ofInt j5), m6, some (Int64.ofInt j7), m8, m9] [] I J b Q := by
  refine w_iload (q := 119) rfl rfl rfl ?_
  refine w_iload_n (q := 120) rfl rfl rfl ?_
  obtain ⟨h1, h2, k⟩ := k
  refine w_cge (t := 175) (q := 123) rfl rfl rfl h1 h2 (fun c3 => ?_) (fun c3 => ?_)
  · replace k := k.1 c3
    refine w_lload (q := 177) rfl rfl rfl ?_
    refine w_lload (q := 179) rfl rfl rfl ?_
    refine w_lsub (q := 180) rfl rfl ?_
    exact w_jret rfl k
  · replace k := k.2 c3
    refine w_lload (q := 125) rfl rfl rfl ?_
    refine w_ldc2 (q := 128) (n := 100) rfl rfl rfl ?_
    refine w_lmul (q := 129) rfl rfl ?_
    refine w_lstore (q := 131) (L' := [some (.ref 104), u1, some (w_i l2), u3, some (w_i l4), none, none, none, u8, some (w_i l9)]) (M' := [m0, m1, m2, m3, none, some (Int64.ofInt (j5 * 100)), none, some (Int64.ofInt j7), m8, m9]) rfl rfl rfl rfl rfl ?_
    refine w_lload (q := 133) rfl rfl rfl ?_
    refine w_bipush (q := 135) rfl rfl rfl ?_
    refine w_aload_n (q := 136) rfl rfl rfl ?_
    refine w_aload_n (q := 137) rfl rfl rfl ?_
    refine w_iload (q := 139) rfl rfl rfl ?_
    refine w_iconst (q := 140) rfl rfl ?_
    refine w_callv (q := 143) rfl rfl rfl rfl rfl rfl ?_
    exact k
theorem b273_143 {xs : Nat → Int32} {xl : Nat} {I J : w_I} {b : Bool} {Q : Option Value → w_I → w_I → Bool → Prop} {u1 u3 u6 u7 u8 : Option Value} {l2 l4 l9 j5 s0 s1 s3 : Int} {m0 m1 m2 m3 m4 m6 m7 m8 m9 : Option Int64} (k : ((0 ≤ 100 + 6 * l4 + 3 ∧ 100 + 6 * l4 + 3 < 2800) ∧ w_C xs xl 272 [.ref 104, w_i (s3 + l9), w_i (I 110 (100 + 6 * l4 + 3))] I J b (fun v Ic Jc bc => w_T xs xl 273 164 [some (.ref 104), u1, some (w_i l2), u3, some (w_i l4), none, u6, u7, u8, some (w_i l9)] [m0, m1, m2, m3, m4, some (Int64.ofInt j5), m6, m7, m8, m9] (w_pv v [w_i s1, w_l s0]) Ic Jc bc Q))) : w_T xs xl 273 143 [some (.ref 104), u1, some (w_i l2), u3, some (w_i l4), none, u6, u7, u8, some (w_i l9)] [m0, m1, m2, m3, m4, some (Int64.ofInt j5), m6, m7, m8, m9] [w_i s3, .ref 104, w_i s1, w_l s0] I J b Q := by
  refine w_iload (q := 145) rfl rfl rfl ?_
  refine w_iadd (q := 146) rfl rfl ?_
  refine w_aload_n (q := 147) rfl rfl rfl ?_
  refine w_gfr (q := 150) rfl rfl rfl rfl (j := 110) rfl ?_
  refine w_bipush (q := 152) rfl rfl rfl ?_
  refine w_bipush (q := 154) rfl rfl rfl ?_
  refine w_iload (q := 156) rfl rfl rfl ?_
  refine w_imul (q := 157) rfl rfl ?_
  refine w_iadd (q := 158) rfl rfl ?_
  refine w_iconst (q := 159) rfl rfl ?_
  refine w_iadd (q := 160) rfl rfl ?_
  obtain ⟨h1, k⟩ := k
  refine w_iald (q := 161) (n := 2800) (v := I 110 (100 + 6 * l4 + 3)) rfl rfl rfl rfl rfl rfl h1 ?_
  refine w_callv (q := 164) rfl rfl rfl rfl rfl rfl ?_
  exact k
theorem b273_164 {xs : Nat → Int32} {xl : Nat} {I J : w_I} {b : Bool} {Q : Option Value → w_I → w_I → Bool → Prop} {u1 u3 u6 u7 u8 : Option Value} {l2 l4 l9 j5 s0 s1 s2 : Int} {m0 m1 m2 m3 m4 m6 m7 m8 m9 : Option Int64} (k : ((-2147483648 ≤ s1 - s2 ∧ s1 - s2 < 2147483648) ∧ w_T xs xl 273 117 [some (.ref 104), u1, some (w_i l2), u3, some (w_i l4), none, u6, none, none, some (w_i (l9 + 1))] [m0, m1, m2, m3, m4, some (Int64.ofInt j5), none, some (Int64.ofInt (s0 * (s1 - s2))), none, none] [] I J b Q)) : w_T xs xl 273 164 [some (.ref 104), u1, some (w_i l2), u3, some (w_i l4), none, u6, u7, u8, some (w_i l9)] [m0, m1, m2, m3, m4, some (Int64.ofInt j5), m6, m7, m8, m9] [w_i s2, w_i s1, w_l s0] I J b Q := by
  refine w_isub (q := 165) rfl rfl ?_
  obtain ⟨h1, k⟩ := k
  refine w_i2l (q := 166) rfl rfl h1 ?_
  refine w_lmul (q := 167) rfl rfl ?_
  refine w_lstore (q := 169) (L' := [some (.ref 104), u1, some (w_i l2), u3, some (w_i l4), none, u6, none, none, some (w_i l9)]) (M' := [m0, m1, m2, m3, m4, some (Int64.ofInt j5), none, some (Int64.ofInt (s0 * (s1 - s2))), none, m9]) rfl rfl rfl rfl rfl ?_
  refine w_iinc (q := 172) (L' := [some (.ref 104), u1, some (w_i l2), u3, some (w_i l4), none, u6, none, none, some (w_i (l9 + 1))]) (M' := [m0, m1, m2, m3, m4, some (Int64.ofInt j5), none, some (Int64.ofInt (s0 * (s1 - s2))), none, none]) rfl rfl rfl rfl rfl rfl ?_
  refine w_goto (t := 117) rfl rfl ?_
  exact k
theorem e274 {xs : Nat → Int32} {xl : Nat} {I J : w_I} {b : Bool} {Q : Option Value → w_I → w_I → Bool → Prop} {a1 : Int} (t : w_T xs xl 274 0 [some (.ref 104), some (w_i a1)] [] [] I J b Q) : w_C xs xl 274 [.ref 104, w_i a1] I J b Q := w_en rfl t
theorem b274_0 {xs : Nat → Int32} {xl : Nat} {I J : w_I} {b : Bool} {Q : Option Value → w_I → w_I → Bool → Prop} {a1 : Int} (k : w_C xs xl 211 [.ref 104, w_i a1] I J b (fun v Ic Jc bc => w_T xs xl 274 5 [some (.ref 104), some (w_i a1)] [] (w_pv v []) Ic Jc bc Q)) : w_T xs xl 274 0 [some (.ref 104), some (w_i a1)] [] [] I J b Q := by
  refine w_aload_n (q := 1) rfl rfl rfl ?_
  refine w_iload_n (q := 2) rfl rfl rfl ?_
  refine w_callv (q := 5) rfl rfl rfl rfl rfl rfl ?_
  exact k
theorem b274_5 {xs : Nat → Int32} {xl : Nat} {I J : w_I} {b : Bool} {Q : Option Value → w_I → w_I → Bool → Prop} {l1 s0 : Int} (k : ((-2147483648 ≤ s0 ∧ s0 < 2147483648) ∧ ((s0 = 0 → Q (some (w_i 0)) I J b) ∧ (¬ s0 = 0 → w_C xs xl 213 [.ref 104, w_i l1] I J b (fun v Ic Jc bc => w_T xs xl 274 13 [some (.ref 104), some (w_i l1)] [] (w_pv v []) Ic Jc bc Q))))) : w_T xs xl 274 5 [some (.ref 104), some (w_i l1)] [] [w_i s0] I J b Q := by
  obtain ⟨h1, k⟩ := k
  refine w_zeq (t := 20) (q := 8) rfl rfl rfl h1 (fun c2 => ?_) (fun c2 => ?_)
  · replace k := k.1 c2
    refine w_iconst (q := 21) rfl rfl ?_
    refine w_iret rfl rfl k
  · replace k := k.2 c2
    refine w_aload_n (q := 9) rfl rfl rfl ?_
    refine w_iload_n (q := 10) rfl rfl rfl ?_
    refine w_callv (q := 13) rfl rfl rfl rfl rfl rfl ?_
    exact k
theorem b274_13 {xs : Nat → Int32} {xl : Nat} {I J : w_I} {b : Bool} {Q : Option Value → w_I → w_I → Bool → Prop} {u1 : Option Value} {s0 : Int} (k : ((-2147483648 ≤ s0 ∧ s0 < 2147483648) ∧ ((s0 < 0 → Q (some (w_i 0)) I J b) ∧ (¬ s0 < 0 → Q (some (w_i 1)) I J b)))) : w_T xs xl 274 13 [some (.ref 104), u1] [] [w_i s0] I J b Q := by
  obtain ⟨h1, k⟩ := k
  refine w_zlt (t := 20) (q := 16) rfl rfl rfl h1 (fun c2 => ?_) (fun c2 => ?_)
  · replace k := k.1 c2
    refine w_iconst (q := 21) rfl rfl ?_
    refine w_iret rfl rfl k
  · replace k := k.2 c2
    refine w_iconst (q := 17) rfl rfl ?_
    refine w_goto (t := 21) rfl rfl ?_
    refine w_iret rfl rfl k
theorem e275 {xs : Nat → Int32} {xl : Nat} {I J : w_I} {b : Bool} {Q : Option Value → w_I → w_I → Bool → Prop} {a1 a2 a3 : Int} (t : w_T xs xl 275 0 [some (.ref 104), some (w_i a1), some (w_i a2), some (w_i a3), none] [] [] I J b Q) : w_C xs xl 275 [.ref 104, w_i a1, w_i a2, w_i a3] I J b Q := w_en rfl t
theorem b275_0 {xs : Nat → Int32} {xl : Nat} {I J : w_I} {b : Bool} {Q : Option Value → w_I → w_I → Bool → Prop} {a1 a2 a3 : Int} (k : w_C xs xl 274 [.ref 104, w_i a1] I J b (fun v Ic Jc bc => w_T xs xl 275 5 [some (.ref 104), some (w_i a1), some (w_i a2), some (w_i a3), none] [] (w_pv v []) Ic Jc bc Q)) : w_T xs xl 275 0 [some (.ref 104), some (w_i a1), some (w_i a2), some (w_i a3), none] [] [] I J b Q := by
  refine w_aload_n (q := 1) rfl rfl rfl ?_
  refine w_iload_n (q := 2) rfl rfl rfl ?_
  refine w_callv (q := 5) rfl rfl rfl rfl rfl rfl ?_
  exact k
theorem b275_5 {xs : Nat → Int32} {xl : Nat} {I J : w_I} {b : Bool} {Q : Option Value → w_I → w_I → Bool → Prop} {l1 l2 l3 s0 : Int} {u4 : Option Value} (k : ((-2147483648 ≤ s0 ∧ s0 < 2147483648) ∧ ((s0 = 0 → Q (some (w_i (-1))) I J b) ∧ (¬ s0 = 0 → w_C xs xl 274 [.ref 104, w_i l2] I J b (fun v Ic Jc bc => w_T xs xl 275 13 [some (.ref 104), some (w_i l1), some (w_i l2), some (w_i l3), u4] [] (w_pv v []) Ic Jc bc Q))))) : w_T xs xl 275 5 [some (.ref 104), some (w_i l1), some (w_i l2), some (w_i l3), u4] [] [w_i s0] I J b Q := by
  obtain ⟨h1, k⟩ := k
  refine w_zeq (t := 21) (q := 8) rfl rfl rfl h1 (fun c2 => ?_) (fun c2 => ?_)
  · replace k := k.1 c2
    refine w_iconst (q := 22) rfl rfl ?_
    exact w_iret rfl rfl k
  · replace k := k.2 c2
    refine w_aload_n (q := 9) rfl rfl rfl ?_
    refine w_iload_n (q := 10) rfl rfl rfl ?_
    refine w_callv (q := 13) rfl rfl rfl rfl rfl rfl ?_
    exact k
theorem b275_13 {xs : Nat → Int32} {xl : Nat} {I J : w_I} {b : Bool} {Q : Option Value → w_I → w_I → Bool → Prop} {l1 l2 l3 s0 : Int} {u4 : Option Value} (k : ((-2147483648 ≤ s0 ∧ s0 < 2147483648) ∧ ((s0 = 0 → Q (some (w_i (-1))) I J b) ∧ (¬ s0 = 0 → ((-2147483648 ≤ l1 ∧ l1 < 2147483648) ∧ (-2147483648 ≤ l2 ∧ l2 < 2147483648) ∧ ((¬ l1 = l2 → w_C xs xl 216 [.ref 104, w_i l1, w_i l2, w_i 0, w_i (I 110 3)] I J b (fun v Ic Jc bc => w_T xs xl 275 36 [some (.ref 104), some (w_i l1), some (w_i l2), some (w_i l3), u4] [] (w_pv v []) Ic Jc bc Q)) ∧ (l1 = l2 → Q (some (w_i (-1))) I J b))))))) : w_T xs xl 275 13 [some (.ref 104), some (w_i l1), some (w_i l2), some (w_i l3), u4] [] [w_i s0] I J b Q := by
  obtain ⟨h1, k⟩ := k
  refine w_zeq (t := 21) (q := 16) rfl rfl rfl h1 (fun c2 => ?_) (fun c2 => ?_)
  · replace k := k.1 c2
    refine w_iconst (q := 22) rfl rfl ?_
    exact w_iret rfl rfl k
  · replace k := k.2 c2
    refine w_iload_n (q := 17) rfl rfl rfl ?_
    refine w_iload_n (q := 18) rfl rfl rfl ?_
    obtain ⟨h3, h4, k⟩ := k
    refine w_cne (t := 23) (q := 21) rfl rfl rfl h3 h4 (fun c5 => ?_) (fun c5 => ?_)
    · replace k := k.1 c5
      refine w_aload_n (q := 24) rfl rfl rfl ?_
      refine w_iload_n (q := 25) rfl rfl rfl ?_
      refine w_iload_n (q := 26) rfl rfl rfl ?_
      refine w_iconst (q := 27) rfl rfl ?_
      refine w_aload_n (q := 28) rfl rfl rfl ?_
      refine w_gfr (q := 31) rfl rfl rfl rfl (j := 110) rfl ?_
      refine w_iconst (q := 32) rfl rfl ?_
      refine w_iald (q := 33) (n := 2800) (v := I 110 3) rfl rfl rfl rfl rfl rfl (by decide) ?_
      refine w_callv (q := 36) rfl rfl rfl rfl rfl rfl ?_
      exact k
    · replace k := k.2 c5
      refine w_iconst (q := 22) rfl rfl ?_
      exact w_iret rfl rfl k
theorem b275_36 {xs : Nat → Int32} {xl : Nat} {I J : w_I} {b : Bool} {Q : Option Value → w_I → w_I → Bool → Prop} {l1 l2 l3 : Int} {u4 : Option Value} (k : ((-2147483648 ≤ I 104 33 ∧ I 104 33 < 2147483648) ∧ ((6 < I 104 33 → Q (some (w_i (-2))) I J b) ∧ (¬ 6 < I 104 33 → w_C xs xl 236 [.ref 104] I J b (fun v Ic Jc bc => w_T xs xl 275 49 [some (.ref 104), some (w_i l1), some (w_i l2), some (w_i l3), u4] [] (w_pv v []) Ic Jc bc Q))))) : w_T xs xl 275 36 [some (.ref 104), some (w_i l1), some (w_i l2), some (w_i l3), u4] [] [] I J b Q := by
  refine w_aload_n (q := 37) rfl rfl rfl ?_
  refine w_gfi (q := 40) (k' := 33) (v := I 104 33) rfl rfl rfl rfl rfl rfl rfl ?_
  refine w_bipush (q := 42) rfl rfl rfl ?_
  obtain ⟨h1, k⟩ := k
  refine w_cgt (t := 52) (q := 45) rfl rfl rfl h1 (by decide) (fun c2 => ?_) (fun c2 => ?_)
  · replace k := k.1 c2
    refine w_bipush (q := 54) rfl rfl rfl ?_
    exact w_iret rfl rfl k
  · replace k := k.2 c2
    refine w_aload_n (q := 46) rfl rfl rfl ?_
    refine w_callv (q := 49) rfl rfl rfl rfl rfl rfl ?_
    exact k
theorem b275_49 {xs : Nat → Int32} {xl : Nat} {I J : w_I} {b : Bool} {Q : Option Value → w_I → w_I → Bool → Prop} {l1 l2 l3 s0 : Int} {u4 : Option Value} (k : ((-2147483648 ≤ s0 ∧ s0 < 2147483648) ∧ ((s0 = 0 → w_T xs xl 275 63 [some (.ref 104), some (w_i l1), some (w_i l2), some (w_i l3), some (w_i 0)] [] [] (w_U I 104 36 0) J b Q) ∧ (¬ s0 = 0 → Q (some (w_i (-2))) I J b)))) : w_T xs xl 275 49 [some (.ref 104), some (w_i l1), some (w_i l2), some (w_i l3), u4] [] [w_i s0] I J b Q := by
  obtain ⟨h1, k⟩ := k
  refine w_zeq (t := 55) (q := 52) rfl rfl rfl h1 (fun c2 => ?_) (fun c2 => ?_)
  · replace k := k.1 c2
    refine w_aload_n (q := 56) rfl rfl rfl ?_
    refine w_iconst (q := 57) rfl rfl ?_
    refine w_pfi (q := 60) (k' := 36) rfl rfl rfl rfl ?_
    refine w_iconst (q := 61) rfl rfl ?_
    refine w_istore (q := 63) (L' := [some (.ref 104), some (w_i l1), some (w_i l2), some (w_i l3), some (w_i 0)]) (M' := []) rfl rfl rfl rfl rfl ?_
    exact k
  · replace k := k.2 c2
    refine w_bipush (q := 54) rfl rfl rfl ?_
    exact w_iret rfl rfl k
theorem b275_63 {xs : Nat → Int32} {xl : Nat} {I J : w_I} {b : Bool} {Q : Option Value → w_I → w_I → Bool → Prop} {l1 l2 l3 l4 : Int} (k : ((-2147483648 ≤ l4 ∧ l4 < 2147483648) ∧ (-2147483648 ≤ I 110 8 ∧ I 110 8 < 2147483648) ∧ ((I 110 8 ≤ l4 → w_C xs xl 243 [.ref 104, w_i (I 110 0), w_i 0] I J b (fun v Ic Jc bc => w_T xs xl 275 187 [some (.ref 104), some (w_i l1), some (w_i l2), some (w_i l3), some (w_i l4)] [] (w_pv v []) Ic Jc bc Q)) ∧ (¬ I 110 8 ≤ l4 → w_C xs xl 274 [.ref 104, w_i l4] I J b (fun v Ic Jc bc => w_T xs xl 275 81 [some (.ref 104), some (w_i l1), some (w_i l2), some (w_i l3), some (w_i l4)] [] (w_pv v []) Ic Jc bc Q))))) : w_T xs xl 275 63 [some (.ref 104), some (w_i l1), some (w_i l2), some (w_i l3), some (w_i l4)] [] [] I J b Q := by
  refine w_iload (q := 65) rfl rfl rfl ?_
  refine w_aload_n (q := 66) rfl rfl rfl ?_
  refine w_gfr (q := 69) rfl rfl rfl rfl (j := 110) rfl ?_
  refine w_bipush (q := 71) rfl rfl rfl ?_
  refine w_iald (q := 72) (n := 2800) (v := I 110 8) rfl rfl rfl rfl rfl rfl (by decide) ?_
  obtain ⟨h1, h2, k⟩ := k
  refine w_cge (t := 176) (q := 75) rfl rfl rfl h1 h2 (fun c3 => ?_) (fun c3 => ?_)
  · replace k := k.1 c3
    refine w_aload_n (q := 177) rfl rfl rfl ?_
    refine w_aload_n (q := 178) rfl rfl rfl ?_
    refine w_gfr (q := 181) rfl rfl rfl rfl (j := 110) rfl ?_
    refine w_iconst (q := 182) rfl rfl ?_
    refine w_iald (q := 183) (n := 2800) (v := I 110 0) rfl rfl rfl rfl rfl rfl (by decide) ?_
    refine w_iconst (q := 184) rfl rfl ?_
    refine w_callv (q := 187) rfl rfl rfl rfl rfl rfl ?_
    exact k
  · replace k := k.2 c3
    refine w_aload_n (q := 76) rfl rfl rfl ?_
    refine w_iload (q := 78) rfl rfl rfl ?_
    refine w_callv (q := 81) rfl rfl rfl rfl rfl rfl ?_
    exact k
theorem b275_187 {xs : Nat → Int32} {xl : Nat} {I J : w_I} {b : Bool} {Q : Option Value → w_I → w_I → Bool → Prop} {u1 u2 u3 u4 : Option Value} {s0 : Int} (k : ((-2147483648 ≤ s0 ∧ s0 < 2147483648) ∧ ((s0 < 100000000 → (((0 : Int) ≤ s0 ∧ s0 < 2147483648 ∧ (0 : Int) < 1000000 ∧ 1000000 < (2147483648 : Int)) ∧ Q (some (w_i (s0 / 1000000))) I J b)) ∧ (¬ s0 < 100000000 → Q (some (w_i (-2))) I J b)))) : w_T xs xl 275 187 [some (.ref 104), u1, u2, u3, u4] [] [w_i s0] I J b Q := by
  refine w_istore (q := 189) (L' := [some (.ref 104), u1, u2, u3, some (w_i s0)]) (M' := []) rfl rfl rfl rfl rfl ?_
  refine w_iload (q := 191) rfl rfl rfl ?_
  refine w_ldc_w (q := 194) (n := 100000000) rfl rfl rfl ?_
  obtain ⟨h1, k⟩ := k
  refine w_clt (t := 202) (q := 197) rfl rfl rfl h1 (by decide) (fun c2 => ?_) (fun c2 => ?_)
  · replace k := k.1 c2
    refine w_iload (q := 204) rfl rfl rfl ?_
    refine w_ldc_w (q := 207) (n := 1000000) rfl rfl rfl ?_
    obtain ⟨h3, k⟩ := k
    refine w_idiv (q := 208) rfl rfl h3 ?_
    exact w_iret rfl rfl k
  · replace k := k.2 c2
    refine w_bipush (q := 199) rfl rfl rfl ?_
    refine w_goto (t := 208) rfl rfl ?_
    exact w_iret rfl rfl k
theorem b275_81 {xs : Nat → Int32} {xl : Nat} {I J : w_I} {b : Bool} {Q : Option Value → w_I → w_I → Bool → Prop} {l1 l2 l3 l4 s0 : Int} (k : ((-2147483648 ≤ s0 ∧ s0 < 2147483648) ∧ ((s0 = 0 → w_T xs xl 275 63 [some (.ref 104), some (w_i l1), some (w_i l2), some (w_i l3), some (w_i (l4 + 1))] [] [] I J b Q) ∧ (¬ s0 = 0 → ((-2147483648 ≤ l4 ∧ l4 < 2147483648) ∧ (-2147483648 ≤ l2 ∧ l2 < 2147483648) ∧ ((¬ l4 = l2 → ((-2147483648 ≤ l1 ∧ l1 < 2147483648) ∧ ((¬ l4 = l1 → w_C xs xl 216 [.ref 104, w_i l4, w_i (-1), w_i 0, w_i (I 110 3)] I J b (fun v Ic Jc bc => w_T xs xl 275 117 [some (.ref 104), some (w_i l1), some (w_i l2), some (w_i l3), some (w_i l4)] [] (w_pv v []) Ic Jc bc Q)) ∧ (l4 = l1 → w_C xs xl 216 [.ref 104, w_i l4, w_i l2, w_i 0, w_i (I 110 3)] I J b (fun v Ic Jc bc => w_T xs xl 275 117 [some (.ref 104), some (w_i l1), some (w_i l2), some (w_i l3), some (w_i l4)] [] (w_pv v []) Ic Jc bc Q))))) ∧ (l4 = l2 → w_T xs xl 275 63 [some (.ref 104), some (w_i l1), some (w_i l2), some (w_i l3), some (w_i (l4 + 1))] [] [] I J b Q))))))) : w_T xs xl 275 81 [some (.ref 104), some (w_i l1), some (w_i l2), some (w_i l3), some (w_i l4)] [] [w_i s0] I J b Q := by
  obtain ⟨h1, k⟩ := k
  refine w_zeq (t := 170) (q := 84) rfl rfl rfl h1 (fun c2 => ?_) (fun c2 => ?_)
  · replace k := k.1 c2
    refine w_iinc (q := 173) (L' := [some (.ref 104), some (w_i l1), some (w_i l2), some (w_i l3), some (w_i (l4 + 1))]) (M' := []) rfl rfl rfl rfl rfl rfl ?_
    refine w_goto (t := 63) rfl rfl ?_
    exact k
  · replace k := k.2 c2
    refine w_iload (q := 86) rfl rfl rfl ?_
    refine w_iload_n (q := 87) rfl rfl rfl ?_
    obtain ⟨h3, h4, k⟩ := k
    refine w_cne (t := 93) (q := 90) rfl rfl rfl h3 h4 (fun c5 => ?_) (fun c5 => ?_)
    · replace k := k.1 c5
      refine w_aload_n (q := 94) rfl rfl rfl ?_
      refine w_iload (q := 96) rfl rfl rfl ?_
      refine w_iload (q := 98) rfl rfl rfl ?_
      refine w_iload_n (q := 99) rfl rfl rfl ?_
      obtain ⟨h6, k⟩ := k
      refine w_cne (t := 106) (q := 102) rfl rfl rfl h3 h6 (fun c7 => ?_) (fun c7 => ?_)
      · replace k := k.1 c7
        refine w_iconst (q := 107) rfl rfl ?_
        refine w_iconst (q := 108) rfl rfl ?_
        refine w_aload_n (q := 109) rfl rfl rfl ?_
        refine w_gfr (q := 112) rfl rfl rfl rfl (j := 110) rfl ?_
        refine w_iconst (q := 113) rfl rfl ?_
        refine w_iald (q := 114) (n := 2800) (v := I 110 3) rfl rfl rfl rfl rfl rfl (by decide) ?_
        refine w_callv (q := 117) rfl rfl rfl rfl rfl rfl ?_
        exact k
      · replace k := k.2 c7
        refine w_iload_n (q := 103) rfl rfl rfl ?_
        refine w_goto (t := 107) rfl rfl ?_
        refine w_iconst (q := 108) rfl rfl ?_
        refine w_aload_n (q := 109) rfl rfl rfl ?_
        refine w_gfr (q := 112) rfl rfl rfl rfl (j := 110) rfl ?_
        refine w_iconst (q := 113) rfl rfl ?_
        refine w_iald (q := 114) (n := 2800) (v := I 110 3) rfl rfl rfl rfl rfl rfl (by decide) ?_
        refine w_callv (q := 117) rfl rfl rfl rfl rfl rfl ?_
        exact k
    · replace k := k.2 c5
      refine w_goto (t := 170) rfl rfl ?_
      refine w_iinc (q := 173) (L' := [some (.ref 104), some (w_i l1), some (w_i l2), some (w_i l3), some (w_i (l4 + 1))]) (M' := []) rfl rfl rfl rfl rfl rfl ?_
      refine w_goto (t := 63) rfl rfl ?_
      exact k
theorem b275_117 {xs : Nat → Int32} {xl : Nat} {I J : w_I} {b : Bool} {Q : Option Value → w_I → w_I → Bool → Prop} {l1 l2 l3 l4 : Int} (k : (((0 : Int) ≤ I 104 35 ∧ I 104 35 < 2147483648 ∧ (0 : Int) < I 110 1 ∧ I 110 1 < (2147483648 : Int)) ∧ ((-2147483648 ≤ l4 ∧ l4 < 2147483648) ∧ (-2147483648 ≤ l1 ∧ l1 < 2147483648) ∧ ((¬ l4 = l1 → w_C xs xl 213 [.ref 104, w_i l4] I J b (fun v Ic Jc bc => w_T xs xl 275 155 [some (.ref 104), some (w_i l1), some (w_i l2), some (w_i l3), some (w_i l4)] [] (w_pv v [w_i (I 104 35 / I 110 1), w_i l4, .ref 104]) Ic Jc bc Q)) ∧ (l4 = l1 → ((-2147483648 ≤ l3 ∧ l3 < 2147483648) ∧ ((l3 = 0 → w_C xs xl 213 [.ref 104, w_i l4] I J b (fun v Ic Jc bc => w_T xs xl 275 155 [some (.ref 104), some (w_i l1), some (w_i l2), some (w_i l3), some (w_i l4)] [] (w_pv v [w_i (I 104 35 / I 110 1), w_i l4, .ref 104]) Ic Jc bc Q)) ∧ (¬ l3 = 0 → w_C xs xl 213 [.ref 104, w_i l2] I J b (fun v Ic Jc bc => w_T xs xl 275 146 [some (.ref 104), some (w_i l1), some (w_i l2), some (w_i l3), some (w_i l4)] [] (w_pv v [w_i (I 104 35 / I 110 1), w_i l4, .ref 104]) Ic Jc bc Q))))))))) : w_T xs xl 275 117 [some (.ref 104), some (w_i l1), some (w_i l2), some (w_i l3), some (w_i l4)] [] [] I J b Q := by
  refine w_aload_n (q := 118) rfl rfl rfl ?_
  refine w_iload (q := 120) rfl rfl rfl ?_
  refine w_aload_n (q := 121) rfl rfl rfl ?_
  refine w_gfi (q := 124) (k' := 35) (v := I 104 35) rfl rfl rfl rfl rfl rfl rfl ?_
  refine w_aload_n (q := 125) rfl rfl rfl ?_
  refine w_gfr (q := 128) rfl rfl rfl rfl (j := 110) rfl ?_
  refine w_iconst (q := 129) rfl rfl ?_
  refine w_iald (q := 130) (n := 2800) (v := I 110 1) rfl rfl rfl rfl rfl rfl (by decide) ?_
  obtain ⟨h1, k⟩ := k
  refine w_idiv (q := 131) rfl rfl h1 ?_
  refine w_iload (q := 133) rfl rfl rfl ?_
  refine w_iload_n (q := 134) rfl rfl rfl ?_
  obtain ⟨h2, h3, k⟩ := k
  refine w_cne (t := 149) (q := 137) rfl rfl rfl h2 h3 (fun c4 => ?_) (fun c4 => ?_)
  · replace k := k.1 c4
    refine w_aload_n (q := 150) rfl rfl rfl ?_
    refine w_iload (q := 152) rfl rfl rfl ?_
    refine w_callv (q := 155) rfl rfl rfl rfl rfl rfl ?_
    exact k
  · replace k := k.2 c4
    refine w_iload_n (q := 138) rfl rfl rfl ?_
    obtain ⟨h5, k⟩ := k
    refine w_zeq (t := 149) (q := 141) rfl rfl rfl h5 (fun c6 => ?_) (fun c6 => ?_)
    · replace k := k.1 c6
      refine w_aload_n (q := 150) rfl rfl rfl ?_
      refine w_iload (q := 152) rfl rfl rfl ?_
      refine w_callv (q := 155) rfl rfl rfl rfl rfl rfl ?_
      exact k
    · replace k := k.2 c6
      refine w_aload_n (q := 142) rfl rfl rfl ?_
      refine w_iload_n (q := 143) rfl rfl rfl ?_
      refine w_callv (q := 146) rfl rfl rfl rfl rfl rfl ?_
      exact k
theorem b275_155 {xs : Nat → Int32} {xl : Nat} {I J : w_I} {b : Bool} {Q : Option Value → w_I → w_I → Bool → Prop} {l1 l2 l3 l4 s1 s2 s3 : Int} (k : w_C xs xl 237 [.ref 104, w_i s1, w_i s2, w_i s3, w_i (I 104 35), w_i (I 104 33), w_i (I 104 34)] I J b (fun v Ic Jc bc => w_T xs xl 275 170 [some (.ref 104), some (w_i l1), some (w_i l2), some (w_i l3), some (w_i l4)] [] (w_pv v []) Ic Jc bc Q)) : w_T xs xl 275 155 [some (.ref 104), some (w_i l1), some (w_i l2), some (w_i l3), some (w_i l4)] [] [w_i s3, w_i s2, w_i s1, .ref 104] I J b Q := by
  refine w_aload_n (q := 156) rfl rfl rfl ?_
  refine w_gfi (q := 159) (k' := 35) (v := I 104 35) rfl rfl rfl rfl rfl rfl rfl ?_
  refine w_aload_n (q := 160) rfl rfl rfl ?_
  refine w_gfi (q := 163) (k' := 33) (v := I 104 33) rfl rfl rfl rfl rfl rfl rfl ?_
  refine w_aload_n (q := 164) rfl rfl rfl ?_
  refine w_gfi (q := 167) (k' := 34) (v := I 104 34) rfl rfl rfl rfl rfl rfl rfl ?_
  refine w_callv (q := 170) rfl rfl rfl rfl rfl rfl ?_
  exact k
theorem b275_146 {xs : Nat → Int32} {xl : Nat} {I J : w_I} {b : Bool} {Q : Option Value → w_I → w_I → Bool → Prop} {l1 l2 l3 l4 s1 s2 s3 : Int} (k : w_C xs xl 237 [.ref 104, w_i s1, w_i s2, w_i s3, w_i (I 104 35), w_i (I 104 33), w_i (I 104 34)] I J b (fun v Ic Jc bc => w_T xs xl 275 170 [some (.ref 104), some (w_i l1), some (w_i l2), some (w_i l3), some (w_i l4)] [] (w_pv v []) Ic Jc bc Q)) : w_T xs xl 275 146 [some (.ref 104), some (w_i l1), some (w_i l2), some (w_i l3), some (w_i l4)] [] [w_i s3, w_i s2, w_i s1, .ref 104] I J b Q := by
  refine w_goto (t := 155) rfl rfl ?_
  refine w_aload_n (q := 156) rfl rfl rfl ?_
  refine w_gfi (q := 159) (k' := 35) (v := I 104 35) rfl rfl rfl rfl rfl rfl rfl ?_
  refine w_aload_n (q := 160) rfl rfl rfl ?_
  refine w_gfi (q := 163) (k' := 33) (v := I 104 33) rfl rfl rfl rfl rfl rfl rfl ?_
  refine w_aload_n (q := 164) rfl rfl rfl ?_
  refine w_gfi (q := 167) (k' := 34) (v := I 104 34) rfl rfl rfl rfl rfl rfl rfl ?_
  refine w_callv (q := 170) rfl rfl rfl rfl rfl rfl ?_
  exact k
theorem b275_170 {xs : Nat → Int32} {xl : Nat} {I J : w_I} {b : Bool} {Q : Option Value → w_I → w_I → Bool → Prop} {l1 l2 l3 l4 : Int} (k : w_T xs xl 275 63 [some (.ref 104), some (w_i l1), some (w_i l2), some (w_i l3), some (w_i (l4 + 1))] [] [] I J b Q) : w_T xs xl 275 170 [some (.ref 104), some (w_i l1), some (w_i l2), some (w_i l3), some (w_i l4)] [] [] I J b Q := by
  refine w_iinc (q := 173) (L' := [some (.ref 104), some (w_i l1), some (w_i l2), some (w_i l3), some (w_i (l4 + 1))]) (M' := []) rfl rfl rfl rfl rfl rfl ?_
  refine w_goto (t := 63) rfl rfl ?_
  exact k
theorem e276 {xs : Nat → Int32} {xl : Nat} {I J : w_I} {b : Bool} {Q : Option Value → w_I → w_I → Bool → Prop} {a0 a1 : Int} (t : w_T xs xl 276 0 [some (w_i a0), some (w_i a1), none] [] [] I J b Q) : w_C xs xl 276 [w_i a0, w_i a1] I J b Q := w_en rfl t
theorem b276_0 {xs : Nat → Int32} {xl : Nat} {I J : w_I} {b : Bool} {Q : Option Value → w_I → w_I → Bool → Prop} {a0 a1 : Int} (k : Q (some (w_i (w_xor (w_xor a0 a1 * 1103515245 + 12345) (w_ush (w_xor a0 a1 * 1103515245 + 12345) 15)))) I J b) : w_T xs xl 276 0 [some (w_i a0), some (w_i a1), none] [] [] I J b Q := by
  refine w_iload_n (q := 1) rfl rfl rfl ?_
  refine w_iload_n (q := 2) rfl rfl rfl ?_
  refine w_ixor (q := 3) rfl rfl ?_
  refine w_ldc_w (q := 6) (n := 1103515245) rfl rfl rfl ?_
  refine w_imul (q := 7) rfl rfl ?_
  refine w_sipush (q := 10) rfl rfl rfl ?_
  refine w_iadd (q := 11) rfl rfl ?_
  refine w_istore_n (q := 12) (L' := [some (w_i a0), some (w_i a1), some (w_i (w_xor a0 a1 * 1103515245 + 12345))]) (M' := []) rfl rfl rfl rfl rfl ?_
  refine w_iload_n (q := 13) rfl rfl rfl ?_
  refine w_iload_n (q := 14) rfl rfl rfl ?_
  refine w_bipush (q := 16) rfl rfl rfl ?_
  refine w_iushr (q := 17) rfl rfl ?_
  refine w_ixor (q := 18) rfl rfl ?_
  exact w_iret rfl rfl k
theorem e277 {xs : Nat → Int32} {xl : Nat} {I J : w_I} {b : Bool} {Q : Option Value → w_I → w_I → Bool → Prop} {a0 a1 a2 : Int} (t : w_T xs xl 277 0 [some (w_i a0), some (w_i a1), some (w_i a2)] [] [] I J b Q) : w_C xs xl 277 [w_i a0, w_i a1, w_i a2] I J b Q := w_en rfl t
theorem b277_0 {xs : Nat → Int32} {xl : Nat} {I J : w_I} {b : Bool} {Q : Option Value → w_I → w_I → Bool → Prop} {a0 a1 a2 : Int} (k : w_C xs xl 276 [w_i a0, w_i 17] I J b (fun v Ic Jc bc => w_T xs xl 277 6 [some (w_i a0), some (w_i a1), some (w_i a2)] [] (w_pv v []) Ic Jc bc Q)) : w_T xs xl 277 0 [some (w_i a0), some (w_i a1), some (w_i a2)] [] [] I J b Q := by
  refine w_iload_n (q := 1) rfl rfl rfl ?_
  refine w_bipush (q := 3) rfl rfl rfl ?_
  refine w_call (q := 6) rfl rfl rfl rfl rfl ?_
  exact k
theorem b277_6 {xs : Nat → Int32} {xl : Nat} {I J : w_I} {b : Bool} {Q : Option Value → w_I → w_I → Bool → Prop} {u0 : Option Value} {l1 l2 s0 : Int} (k : w_C xs xl 276 [w_i s0, w_i l1] I J b (fun v Ic Jc bc => w_T xs xl 277 10 [u0, some (w_i l1), some (w_i l2)] [] (w_pv v []) Ic Jc bc Q)) : w_T xs xl 277 6 [u0, some (w_i l1), some (w_i l2)] [] [w_i s0] I J b Q := by
  refine w_iload_n (q := 7) rfl rfl rfl ?_
  refine w_call (q := 10) rfl rfl rfl rfl rfl ?_
  exact k
theorem b277_10 {xs : Nat → Int32} {xl : Nat} {I J : w_I} {b : Bool} {Q : Option Value → w_I → w_I → Bool → Prop} {u0 u1 : Option Value} {l2 s0 : Int} (k : (((0 : Int) ≤ w_ush s0 1 ∧ w_ush s0 1 < 2147483648 ∧ (0 : Int) < l2 ∧ l2 < (2147483648 : Int)) ∧ Q (some (w_i (w_ush s0 1 % l2))) I J b)) : w_T xs xl 277 10 [u0, u1, some (w_i l2)] [] [w_i s0] I J b Q := by
  refine w_iconst (q := 11) rfl rfl ?_
  refine w_iushr (q := 12) rfl rfl ?_
  refine w_iload_n (q := 13) rfl rfl rfl ?_
  obtain ⟨h1, k⟩ := k
  refine w_irem (q := 14) rfl rfl h1 ?_
  exact w_iret rfl rfl k
theorem e278 {xs : Nat → Int32} {xl : Nat} {I J : w_I} {b : Bool} {Q : Option Value → w_I → w_I → Bool → Prop} (t : w_T xs xl 278 0 [some (.ref 104), none] [] [] I J b Q) : w_C xs xl 278 [.ref 104] I J b Q := w_en rfl t
theorem b278_0 {xs : Nat → Int32} {xl : Nat} {I J : w_I} {b : Bool} {Q : Option Value → w_I → w_I → Bool → Prop} (k : w_C xs xl 245 [.ref 104, w_i (-1)] I J b (fun v Ic Jc bc => w_T xs xl 278 5 [some (.ref 104), none] [] (w_pv v []) Ic Jc bc Q)) : w_T xs xl 278 0 [some (.ref 104), none] [] [] I J b Q := by
  refine w_aload_n (q := 1) rfl rfl rfl ?_
  refine w_iconst (q := 2) rfl rfl ?_
  refine w_callv (q := 5) rfl rfl rfl rfl rfl rfl ?_
  exact k
theorem b278_5 {xs : Nat → Int32} {xl : Nat} {I J : w_I} {b : Bool} {Q : Option Value → w_I → w_I → Bool → Prop} {u1 : Option Value} {s0 : Int} (k : ((-2147483648 ≤ s0 ∧ s0 < 2147483648) ∧ ((s0 < 100000000 → w_C xs xl 249 [.ref 104] I J b (fun v Ic Jc bc => w_T xs xl 278 19 [some (.ref 104), some (w_i s0)] [] (w_pv v []) Ic Jc bc Q)) ∧ (¬ s0 < 100000000 → Q (some (w_i 0)) I J b)))) : w_T xs xl 278 5 [some (.ref 104), u1] [] [w_i s0] I J b Q := by
  refine w_istore_n (q := 6) (L' := [some (.ref 104), some (w_i s0)]) (M' := []) rfl rfl rfl rfl rfl ?_
  refine w_iload_n (q := 7) rfl rfl rfl ?_
  refine w_ldc_w (q := 10) (n := 100000000) rfl rfl rfl ?_
  obtain ⟨h1, k⟩ := k
  refine w_clt (t := 15) (q := 13) rfl rfl rfl h1 (by decide) (fun c2 => ?_) (fun c2 => ?_)
  · replace k := k.1 c2
    refine w_aload_n (q := 16) rfl rfl rfl ?_
    refine w_callv (q := 19) rfl rfl rfl rfl rfl rfl ?_
    exact k
  · replace k := k.2 c2
    refine w_iconst (q := 14) rfl rfl ?_
    exact w_iret rfl rfl k
theorem b278_19 {xs : Nat → Int32} {xl : Nat} {I J : w_I} {b : Bool} {Q : Option Value → w_I → w_I → Bool → Prop} {l1 : Int} (k : (((0 : Int) ≤ l1 ∧ l1 < 2147483648 ∧ (0 : Int) < 1000000 ∧ 1000000 < (2147483648 : Int)) ∧ Q (some (w_i (l1 / 1000000))) I J b)) : w_T xs xl 278 19 [some (.ref 104), some (w_i l1)] [] [] I J b Q := by
  refine w_iload_n (q := 20) rfl rfl rfl ?_
  refine w_ldc_w (q := 23) (n := 1000000) rfl rfl rfl ?_
  obtain ⟨h1, k⟩ := k
  refine w_idiv (q := 24) rfl rfl h1 ?_
  exact w_iret rfl rfl k
theorem e279 {xs : Nat → Int32} {xl : Nat} {I J : w_I} {b : Bool} {Q : Option Value → w_I → w_I → Bool → Prop} {a1 : Int} (t : w_T xs xl 279 0 [some (.ref 104), some (w_i a1)] [] [] I J b Q) : w_C xs xl 279 [.ref 104, w_i a1] I J b Q := w_en rfl t
theorem b279_0 {xs : Nat → Int32} {xl : Nat} {I J : w_I} {b : Bool} {Q : Option Value → w_I → w_I → Bool → Prop} {a1 : Int} (k : ((-2147483648 ≤ a1 ∧ a1 < 2147483648) ∧ ((a1 < 0 → Q none I J b) ∧ (¬ a1 < 0 → w_C xs xl 224 [.ref 104, w_i a1] I J b (fun v Ic Jc bc => w_T xs xl 279 9 [some (.ref 104), some (w_i a1)] [] (w_pv v []) Ic Jc bc Q))))) : w_T xs xl 279 0 [some (.ref 104), some (w_i a1)] [] [] I J b Q := by
  refine w_iload_n (q := 1) rfl rfl rfl ?_
  obtain ⟨h1, k⟩ := k
  refine w_zlt (t := 9) (q := 4) rfl rfl rfl h1 (fun c2 => ?_) (fun c2 => ?_)
  · replace k := k.1 c2
    exact w_vret rfl k
  · replace k := k.2 c2
    refine w_aload_n (q := 5) rfl rfl rfl ?_
    refine w_iload_n (q := 6) rfl rfl rfl ?_
    refine w_callv (q := 9) rfl rfl rfl rfl rfl rfl ?_
    exact k
theorem b279_9 {xs : Nat → Int32} {xl : Nat} {I J : w_I} {b : Bool} {Q : Option Value → w_I → w_I → Bool → Prop} {u1 : Option Value} (k : Q none I J b) : w_T xs xl 279 9 [some (.ref 104), u1] [] [] I J b Q := by
  exact w_vret rfl k
theorem e280 {xs : Nat → Int32} {xl : Nat} {I J : w_I} {b : Bool} {Q : Option Value → w_I → w_I → Bool → Prop} {a1 : Int} (t : w_T xs xl 280 0 [some (.ref 104), some (w_i a1), none] [] [] I J b Q) : w_C xs xl 280 [.ref 104, w_i a1] I J b Q := w_en rfl t
theorem b280_0 {xs : Nat → Int32} {xl : Nat} {I J : w_I} {b : Bool} {Q : Option Value → w_I → w_I → Bool → Prop} {a1 : Int} (k : ((-2147483648 ≤ a1 ∧ a1 < 2147483648) ∧ ((0 ≤ a1 → ((0 ≤ 100 + 6 * a1 + 5 ∧ 100 + 6 * a1 + 5 < 2800) ∧ w_C xs xl 245 [.ref 104, w_i (I 110 (100 + 6 * a1 + 5))] I J b (fun v Ic Jc bc => w_T xs xl 280 24 [some (.ref 104), some (w_i a1), none] [] (w_pv v []) Ic Jc bc Q))) ∧ (¬ 0 ≤ a1 → Q (some (w_i 0)) I J b)))) : w_T xs xl 280 0 [some (.ref 104), some (w_i a1), none] [] [] I J b Q := by
  refine w_iload_n (q := 1) rfl rfl rfl ?_
  obtain ⟨h1, k⟩ := k
  refine w_zge (t := 6) (q := 4) rfl rfl rfl h1 (fun c2 => ?_) (fun c2 => ?_)
  · replace k := k.1 c2
    refine w_aload_n (q := 7) rfl rfl rfl ?_
    refine w_aload_n (q := 8) rfl rfl rfl ?_
    refine w_gfr (q := 11) rfl rfl rfl rfl (j := 110) rfl ?_
    refine w_bipush (q := 13) rfl rfl rfl ?_
    refine w_bipush (q := 15) rfl rfl rfl ?_
    refine w_iload_n (q := 16) rfl rfl rfl ?_
    refine w_imul (q := 17) rfl rfl ?_
    refine w_iadd (q := 18) rfl rfl ?_
    refine w_iconst (q := 19) rfl rfl ?_
    refine w_iadd (q := 20) rfl rfl ?_
    obtain ⟨h3, k⟩ := k
    refine w_iald (q := 21) (n := 2800) (v := I 110 (100 + 6 * a1 + 5)) rfl rfl rfl rfl rfl rfl h3 ?_
    refine w_callv (q := 24) rfl rfl rfl rfl rfl rfl ?_
    exact k
  · replace k := k.2 c2
    refine w_iconst (q := 5) rfl rfl ?_
    exact w_iret rfl rfl k
theorem b280_24 {xs : Nat → Int32} {xl : Nat} {I J : w_I} {b : Bool} {Q : Option Value → w_I → w_I → Bool → Prop} {l1 s0 : Int} {u2 : Option Value} (k : ((-2147483648 ≤ s0 ∧ s0 < 2147483648) ∧ ((s0 < 100000000 → w_C xs xl 249 [.ref 104] I J b (fun v Ic Jc bc => w_T xs xl 280 43 [some (.ref 104), some (w_i l1), some (w_i s0)] [] (w_pv v []) Ic Jc bc Q)) ∧ (¬ s0 < 100000000 → w_C xs xl 279 [.ref 104, w_i l1] I J b (fun v Ic Jc bc => w_T xs xl 280 37 [some (.ref 104), some (w_i l1), some (w_i s0)] [] (w_pv v []) Ic Jc bc Q))))) : w_T xs xl 280 24 [some (.ref 104), some (w_i l1), u2] [] [w_i s0] I J b Q := by
  refine w_istore_n (q := 25) (L' := [some (.ref 104), some (w_i l1), some (w_i s0)]) (M' := []) rfl rfl rfl rfl rfl ?_
  refine w_iload_n (q := 26) rfl rfl rfl ?_
  refine w_ldc_w (q := 29) (n := 100000000) rfl rfl rfl ?_
  obtain ⟨h1, k⟩ := k
  refine w_clt (t := 39) (q := 32) rfl rfl rfl h1 (by decide) (fun c2 => ?_) (fun c2 => ?_)
  · replace k := k.1 c2
    refine w_aload_n (q := 40) rfl rfl rfl ?_
    refine w_callv (q := 43) rfl rfl rfl rfl rfl rfl ?_
    exact k
  · replace k := k.2 c2
    refine w_aload_n (q := 33) rfl rfl rfl ?_
    refine w_iload_n (q := 34) rfl rfl rfl ?_
    refine w_callv (q := 37) rfl rfl rfl rfl rfl rfl ?_
    exact k
theorem b280_43 {xs : Nat → Int32} {xl : Nat} {I J : w_I} {b : Bool} {Q : Option Value → w_I → w_I → Bool → Prop} {u1 : Option Value} {l2 : Int} (k : (((0 : Int) ≤ l2 ∧ l2 < 2147483648 ∧ (0 : Int) < 1000000 ∧ 1000000 < (2147483648 : Int)) ∧ Q (some (w_i (l2 / 1000000))) I J b)) : w_T xs xl 280 43 [some (.ref 104), u1, some (w_i l2)] [] [] I J b Q := by
  refine w_iload_n (q := 44) rfl rfl rfl ?_
  refine w_ldc_w (q := 47) (n := 1000000) rfl rfl rfl ?_
  obtain ⟨h1, k⟩ := k
  refine w_idiv (q := 48) rfl rfl h1 ?_
  exact w_iret rfl rfl k
theorem b280_37 {xs : Nat → Int32} {xl : Nat} {I J : w_I} {b : Bool} {Q : Option Value → w_I → w_I → Bool → Prop} {u1 u2 : Option Value} (k : Q (some (w_i 0)) I J b) : w_T xs xl 280 37 [some (.ref 104), u1, u2] [] [] I J b Q := by
  refine w_iconst (q := 38) rfl rfl ?_
  exact w_iret rfl rfl k
theorem e281 {xs : Nat → Int32} {xl : Nat} {I J : w_I} {b : Bool} {Q : Option Value → w_I → w_I → Bool → Prop} {a1 : Int} (t : w_T xs xl 281 0 [some (.ref 104), some (w_i a1), none, none, none, none, none, none, none] [] [] I J b Q) : w_C xs xl 281 [.ref 104, w_i a1] I J b Q := w_en rfl t
theorem b281_0 {xs : Nat → Int32} {xl : Nat} {I J : w_I} {b : Bool} {Q : Option Value → w_I → w_I → Bool → Prop} {a1 : Int} (k : ((-2147483648 ≤ a1 ∧ a1 < 2147483648) ∧ ((0 ≤ a1 → ((0 ≤ 100 + 6 * a1 + 5 ∧ 100 + 6 * a1 + 5 < 2800) ∧ w_C xs xl 218 [.ref 104, w_i (I 110 (100 + 6 * a1 + 5))] I J b (fun v Ic Jc bc => w_T xs xl 281 25 [some (.ref 104), some (w_i a1), some (w_i (I 110 (100 + 6 * a1 + 5))), none, none, none, none, none, none] [] (w_pv v []) Ic Jc bc Q))) ∧ (¬ 0 ≤ a1 → Q none I J b)))) : w_T xs xl 281 0 [some (.ref 104), some (w_i a1), none, none, none, none, none, none, none] [] [] I J b Q := by
  refine w_iload_n (q := 1) rfl rfl rfl ?_
  obtain ⟨h1, k⟩ := k
  refine w_zge (t := 5) (q := 4) rfl rfl rfl h1 (fun c2 => ?_) (fun c2 => ?_)
  · replace k := k.1 c2
    refine w_aload_n (q := 6) rfl rfl rfl ?_
    refine w_gfr (q := 9) rfl rfl rfl rfl (j := 110) rfl ?_
    refine w_bipush (q := 11) rfl rfl rfl ?_
    refine w_bipush (q := 13) rfl rfl rfl ?_
    refine w_iload_n (q := 14) rfl rfl rfl ?_
    refine w_imul (q := 15) rfl rfl ?_
    refine w_iadd (q := 16) rfl rfl ?_
    refine w_iconst (q := 17) rfl rfl ?_
    refine w_iadd (q := 18) rfl rfl ?_
    obtain ⟨h3, k⟩ := k
    refine w_iald (q := 19) (n := 2800) (v := I 110 (100 + 6 * a1 + 5)) rfl rfl rfl rfl rfl rfl h3 ?_
    refine w_istore_n (q := 20) (L' := [some (.ref 104), some (w_i a1), some (w_i (I 110 (100 + 6 * a1 + 5))), none, none, none, none, none, none]) (M' := []) rfl rfl rfl rfl rfl ?_
    refine w_aload_n (q := 21) rfl rfl rfl ?_
    refine w_iload_n (q := 22) rfl rfl rfl ?_
    refine w_callv (q := 25) rfl rfl rfl rfl rfl rfl ?_
    exact k
  · replace k := k.2 c2
    exact w_vret rfl k
theorem b281_25 {xs : Nat → Int32} {xl : Nat} {I J : w_I} {b : Bool} {Q : Option Value → w_I → w_I → Bool → Prop} {l1 l2 s0 : Int} {u3 u4 u5 u6 u7 u8 : Option Value} (k : w_T xs xl 281 32 [some (.ref 104), some (w_i l1), some (w_i l2), some (w_i s0), some (w_i 0), some (w_i 0), u6, u7, u8] [] [] I J b Q) : w_T xs xl 281 25 [some (.ref 104), some (w_i l1), some (w_i l2), u3, u4, u5, u6, u7, u8] [] [w_i s0] I J b Q := by
  refine w_istore_n (q := 26) (L' := [some (.ref 104), some (w_i l1), some (w_i l2), some (w_i s0), u4, u5, u6, u7, u8]) (M' := []) rfl rfl rfl rfl rfl ?_
  refine w_iconst (q := 27) rfl rfl ?_
  refine w_istore (q := 29) (L' := [some (.ref 104), some (w_i l1), some (w_i l2), some (w_i s0), some (w_i 0), u5, u6, u7, u8]) (M' := []) rfl rfl rfl rfl rfl ?_
  refine w_iconst (q := 30) rfl rfl ?_
  refine w_istore (q := 32) (L' := [some (.ref 104), some (w_i l1), some (w_i l2), some (w_i s0), some (w_i 0), some (w_i 0), u6, u7, u8]) (M' := []) rfl rfl rfl rfl rfl ?_
  exact k
theorem b281_32 {xs : Nat → Int32} {xl : Nat} {I J : w_I} {b : Bool} {Q : Option Value → w_I → w_I → Bool → Prop} {l1 l2 l3 l4 l5 : Int} {u6 u7 u8 : Option Value} (k : ((-2147483648 ≤ l5 ∧ l5 < 2147483648) ∧ (-2147483648 ≤ I 110 8 ∧ I 110 8 < 2147483648) ∧ ((I 110 8 ≤ l5 → w_T xs xl 281 88 [some (.ref 104), some (w_i l1), some (w_i l2), some (w_i l3), some (w_i l4), some (w_i (-1)), some (w_i 0), some (w_i 0), u8] [] [] I J b Q) ∧ (¬ I 110 8 ≤ l5 → w_C xs xl 274 [.ref 104, w_i l5] I J b (fun v Ic Jc bc => w_T xs xl 281 52 [some (.ref 104), some (w_i l1), some (w_i l2), some (w_i l3), some (w_i l4), some (w_i l5), u6, u7, u8] [] (w_pv v [w_i l4]) Ic Jc bc Q))))) : w_T xs xl 281 32 [some (.ref 104), some (w_i l1), some (w_i l2), some (w_i l3), some (w_i l4), some (w_i l5), u6, u7, u8] [] [] I J b Q := by
  refine w_iload (q := 34) rfl rfl rfl ?_
  refine w_aload_n (q := 35) rfl rfl rfl ?_
  refine w_gfr (q := 38) rfl rfl rfl rfl (j := 110) rfl ?_
  refine w_bipush (q := 40) rfl rfl rfl ?_
  refine w_iald (q := 41) (n := 2800) (v := I 110 8) rfl rfl rfl rfl rfl rfl (by decide) ?_
  obtain ⟨h1, h2, k⟩ := k
  refine w_cge (t := 79) (q := 44) rfl rfl rfl h1 h2 (fun c3 => ?_) (fun c3 => ?_)
  · replace k := k.1 c3
    refine w_iconst (q := 80) rfl rfl ?_
    refine w_istore (q := 82) (L' := [some (.ref 104), some (w_i l1), some (w_i l2), some (w_i l3), some (w_i l4), some (w_i (-1)), u6, u7, u8]) (M' := []) rfl rfl rfl rfl rfl ?_
    refine w_iconst (q := 83) rfl rfl ?_
    refine w_istore (q := 85) (L' := [some (.ref 104), some (w_i l1), some (w_i l2), some (w_i l3), some (w_i l4), some (w_i (-1)), some (w_i 0), u7, u8]) (M' := []) rfl rfl rfl rfl rfl ?_
    refine w_iconst (q := 86) rfl rfl ?_
    refine w_istore (q := 88) (L' := [some (.ref 104), some (w_i l1), some (w_i l2), some (w_i l3), some (w_i l4), some (w_i (-1)), some (w_i 0), some (w_i 0), u8]) (M' := []) rfl rfl rfl rfl rfl ?_
    exact k
  · replace k := k.2 c3
    refine w_iload (q := 46) rfl rfl rfl ?_
    refine w_aload_n (q := 47) rfl rfl rfl ?_
    refine w_iload (q := 49) rfl rfl rfl ?_
    refine w_callv (q := 52) rfl rfl rfl rfl rfl rfl ?_
    exact k
theorem b281_88 {xs : Nat → Int32} {xl : Nat} {I J : w_I} {b : Bool} {Q : Option Value → w_I → w_I → Bool → Prop} {l1 l2 l4 l5 l6 l7 : Int} {u3 u8 : Option Value} (k : ((-2147483648 ≤ l7 ∧ l7 < 2147483648) ∧ (-2147483648 ≤ I 110 0 ∧ I 110 0 < 2147483648) ∧ ((I 110 0 ≤ l7 → ((-2147483648 ≤ l5 ∧ l5 < 2147483648) ∧ ((0 ≤ l5 → ((0 ≤ 460 + 3 * l2 + 1 ∧ 460 + 3 * l2 + 1 < 2800) ∧ Q none (w_U I 110 (460 + 3 * l2 + 1) l5) J b)) ∧ (¬ 0 ≤ l5 → w_C xs xl 279 [.ref 104, w_i l1] I J b (fun v Ic Jc bc => w_T xs xl 281 172 [some (.ref 104), some (w_i l1), some (w_i l2), u3, some (w_i l4), some (w_i l5), some (w_i l6), some (w_i l7), u8] [] (w_pv v []) Ic Jc bc Q))))) ∧ (¬ I 110 0 ≤ l7 → w_C xs xl 214 [.ref 104, w_i l7] I J b (fun v Ic Jc bc => w_T xs xl 281 105 [some (.ref 104), some (w_i l1), some (w_i l2), u3, some (w_i l4), some (w_i l5), some (w_i l6), some (w_i l7), u8] [] (w_pv v []) Ic Jc bc Q))))) : w_T xs xl 281 88 [some (.ref 104), some (w_i l1), some (w_i l2), u3, some (w_i l4), some (w_i l5), some (w_i l6), some (w_i l7), u8] [] [] I J b Q := by
  refine w_iload (q := 90) rfl rfl rfl ?_
  refine w_aload_n (q := 91) rfl rfl rfl ?_
  refine w_gfr (q := 94) rfl rfl rfl rfl (j := 110) rfl ?_
  refine w_iconst (q := 95) rfl rfl ?_
  refine w_iald (q := 96) (n := 2800) (v := I 110 0) rfl rfl rfl rfl rfl rfl (by decide) ?_
  obtain ⟨h1, h2, k⟩ := k
  refine w_cge (t := 162) (q := 99) rfl rfl rfl h1 h2 (fun c3 => ?_) (fun c3 => ?_)
  · replace k := k.1 c3
    refine w_iload (q := 164) rfl rfl rfl ?_
    obtain ⟨h4, k⟩ := k
    refine w_zge (t := 175) (q := 167) rfl rfl rfl h4 (fun c5 => ?_) (fun c5 => ?_)
    · replace k := k.1 c5
      refine w_aload_n (q := 176) rfl rfl rfl ?_
      refine w_gfr (q := 179) rfl rfl rfl rfl (j := 110) rfl ?_
      refine w_sipush (q := 182) rfl rfl rfl ?_
      refine w_iconst (q := 183) rfl rfl ?_
      refine w_iload_n (q := 184) rfl rfl rfl ?_
      refine w_imul (q := 185) rfl rfl ?_
      refine w_iadd (q := 186) rfl rfl ?_
      refine w_iconst (q := 187) rfl rfl ?_
      refine w_iadd (q := 188) rfl rfl ?_
      refine w_iload (q := 190) rfl rfl rfl ?_
      obtain ⟨h6, k⟩ := k
      refine w_iast (q := 191) (n := 2800) rfl rfl rfl rfl rfl h6 ?_
      exact w_vret rfl k
    · replace k := k.2 c5
      refine w_aload_n (q := 168) rfl rfl rfl ?_
      refine w_iload_n (q := 169) rfl rfl rfl ?_
      refine w_callv (q := 172) rfl rfl rfl rfl rfl rfl ?_
      exact k
  · replace k := k.2 c3
    refine w_aload_n (q := 100) rfl rfl rfl ?_
    refine w_iload (q := 102) rfl rfl rfl ?_
    refine w_callv (q := 105) rfl rfl rfl rfl rfl rfl ?_
    exact k
theorem b281_52 {xs : Nat → Int32} {xl : Nat} {I J : w_I} {b : Bool} {Q : Option Value → w_I → w_I → Bool → Prop} {l1 l2 l3 l5 s0 s1 : Int} {u4 u6 u7 u8 : Option Value} (k : ((-2147483648 ≤ s1 ∧ s1 < 2147483648) ∧ ((s1 = 0 → w_T xs xl 281 32 [some (.ref 104), some (w_i l1), some (w_i l2), some (w_i l3), some (w_i (s0 + 0)), some (w_i (l5 + 1)), u6, u7, u8] [] [] I J b Q) ∧ (¬ s1 = 0 → w_C xs xl 218 [.ref 104, w_i l5] I J b (fun v Ic Jc bc => w_T xs xl 281 61 [some (.ref 104), some (w_i l1), some (w_i l2), some (w_i l3), u4, some (w_i l5), u6, u7, u8] [] (w_pv v [w_i s0]) Ic Jc bc Q))))) : w_T xs xl 281 52 [some (.ref 104), some (w_i l1), some (w_i l2), some (w_i l3), u4, some (w_i l5), u6, u7, u8] [] [w_i s1, w_i s0] I J b Q := by
  obtain ⟨h1, k⟩ := k
  refine w_zeq (t := 69) (q := 55) rfl rfl rfl h1 (fun c2 => ?_) (fun c2 => ?_)
  · replace k := k.1 c2
    refine w_iconst (q := 70) rfl rfl ?_
    refine w_iadd (q := 71) rfl rfl ?_
    refine w_istore (q := 73) (L' := [some (.ref 104), some (w_i l1), some (w_i l2), some (w_i l3), some (w_i (s0 + 0)), some (w_i l5), u6, u7, u8]) (M' := []) rfl rfl rfl rfl rfl ?_
    refine w_iinc (q := 76) (L' := [some (.ref 104), some (w_i l1), some (w_i l2), some (w_i l3), some (w_i (s0 + 0)), some (w_i (l5 + 1)), u6, u7, u8]) (M' := []) rfl rfl rfl rfl rfl rfl ?_
    refine w_goto (t := 32) rfl rfl ?_
    exact k
  · replace k := k.2 c2
    refine w_aload_n (q := 56) rfl rfl rfl ?_
    refine w_iload (q := 58) rfl rfl rfl ?_
    refine w_callv (q := 61) rfl rfl rfl rfl rfl rfl ?_
    exact k
theorem b281_172 {xs : Nat → Int32} {xl : Nat} {I J : w_I} {b : Bool} {Q : Option Value → w_I → w_I → Bool → Prop} {u1 u2 u3 u4 u5 u6 u7 u8 : Option Value} (k : Q none I J b) : w_T xs xl 281 172 [some (.ref 104), u1, u2, u3, u4, u5, u6, u7, u8] [] [] I J b Q := by
  refine w_goto (t := 191) rfl rfl ?_
  exact w_vret rfl k
theorem b281_105 {xs : Nat → Int32} {xl : Nat} {I J : w_I} {b : Bool} {Q : Option Value → w_I → w_I → Bool → Prop} {l1 l2 l4 l5 l6 l7 s0 : Int} {u3 u8 : Option Value} (k : ((-2147483648 ≤ s0 ∧ s0 < 2147483648) ∧ ((s0 < 0 → ((-2147483648 ≤ l7 ∧ l7 < 2147483648) ∧ (-2147483648 ≤ l4 ∧ l4 < 2147483648) ∧ ((l7 ≤ l4 → ((-2147483648 ≤ l5 ∧ l5 < 2147483648) ∧ ((l5 < 0 → w_T xs xl 281 88 [some (.ref 104), some (w_i l1), some (w_i l2), u3, some (w_i l4), some (w_i l7), some (w_i (l4 - l7)), some (w_i (l7 + 1)), some (w_i (l4 - l7))] [] [] I J b Q) ∧ (¬ l5 < 0 → ((-2147483648 ≤ l4 - l7 ∧ l4 - l7 < 2147483648) ∧ (-2147483648 ≤ l6 ∧ l6 < 2147483648) ∧ ((l4 - l7 < l6 → w_T xs xl 281 88 [some (.ref 104), some (w_i l1), some (w_i l2), u3, some (w_i l4), some (w_i l7), some (w_i (l4 - l7)), some (w_i (l7 + 1)), some (w_i (l4 - l7))] [] [] I J b Q) ∧ (¬ l4 - l7 < l6 → w_T xs xl 281 88 [some (.ref 104), some (w_i l1), some (w_i l2), u3, some (w_i l4), some (w_i l5), some (w_i l6), some (w_i (l7 + 1)), some (w_i (l4 - l7))] [] [] I J b Q))))))) ∧ (¬ l7 ≤ l4 → ((-2147483648 ≤ l5 ∧ l5 < 2147483648) ∧ ((l5 < 0 → w_T xs xl 281 88 [some (.ref 104), some (w_i l1), some (w_i l2), u3, some (w_i l4), some (w_i l7), some (w_i (l7 - l4)), some (w_i (l7 + 1)), some (w_i (l7 - l4))] [] [] I J b Q) ∧ (¬ l5 < 0 → ((-2147483648 ≤ l7 - l4 ∧ l7 - l4 < 2147483648) ∧ (-2147483648 ≤ l6 ∧ l6 < 2147483648) ∧ ((l7 - l4 < l6 → w_T xs xl 281 88 [some (.ref 104), some (w_i l1), some (w_i l2), u3, some (w_i l4), some (w_i l7), some (w_i (l7 - l4)), some (w_i (l7 + 1)), some (w_i (l7 - l4))] [] [] I J b Q) ∧ (¬ l7 - l4 < l6 → w_T xs xl 281 88 [some (.ref 104), some (w_i l1), some (w_i l2), u3, some (w_i l4), some (w_i l5), some (w_i l6), some (w_i (l7 + 1)), some (w_i (l7 - l4))] [] [] I J b Q)))))))))) ∧ (¬ s0 < 0 → w_T xs xl 281 88 [some (.ref 104), some (w_i l1), some (w_i l2), u3, some (w_i l4), some (w_i l5), some (w_i l6), some (w_i (l7 + 1)), u8] [] [] I J b Q)))) : w_T xs xl 281 105 [some (.ref 104), some (w_i l1), some (w_i l2), u3, some (w_i l4), some (w_i l5), some (w_i l6), some (w_i l7), u8] [] [w_i s0] I J b Q := by
  obtain ⟨h1, k⟩ := k
  refine w_zlt (t := 111) (q := 108) rfl rfl rfl h1 (fun c2 => ?_) (fun c2 => ?_)
  · replace k := k.1 c2
    refine w_iload (q := 113) rfl rfl rfl ?_
    refine w_iload (q := 115) rfl rfl rfl ?_
    obtain ⟨h3, h4, k⟩ := k
    refine w_cle (t := 126) (q := 118) rfl rfl rfl h3 h4 (fun c5 => ?_) (fun c5 => ?_)
    · replace k := k.1 c5
      refine w_iload (q := 128) rfl rfl rfl ?_
      refine w_iload (q := 130) rfl rfl rfl ?_
      refine w_isub (q := 131) rfl rfl ?_
      refine w_istore (q := 133) (L' := [some (.ref 104), some (w_i l1), some (w_i l2), u3, some (w_i l4), some (w_i l5), some (w_i l6), some (w_i l7), some (w_i (l4 - l7))]) (M' := []) rfl rfl rfl rfl rfl ?_
      refine w_iload (q := 135) rfl rfl rfl ?_
      obtain ⟨h6, k⟩ := k
      refine w_zlt (t := 148) (q := 138) rfl rfl rfl h6 (fun c7 => ?_) (fun c7 => ?_)
      · replace k := k.1 c7
        refine w_iload (q := 150) rfl rfl rfl ?_
        refine w_istore (q := 152) (L' := [some (.ref 104), some (w_i l1), some (w_i l2), u3, some (w_i l4), some (w_i l7), some (w_i l6), some (w_i l7), some (w_i (l4 - l7))]) (M' := []) rfl rfl rfl rfl rfl ?_
        refine w_iload (q := 154) rfl rfl rfl ?_
        refine w_istore (q := 156) (L' := [some (.ref 104), some (w_i l1), some (w_i l2), u3, some (w_i l4), some (w_i l7), some (w_i (l4 - l7)), some (w_i l7), some (w_i (l4 - l7))]) (M' := []) rfl rfl rfl rfl rfl ?_
        refine w_iinc (q := 159) (L' := [some (.ref 104), some (w_i l1), some (w_i l2), u3, some (w_i l4), some (w_i l7), some (w_i (l4 - l7)), some (w_i (l7 + 1)), some (w_i (l4 - l7))]) (M' := []) rfl rfl rfl rfl rfl rfl ?_
        refine w_goto (t := 88) rfl rfl ?_
        exact k
      · replace k := k.2 c7
        refine w_iload (q := 140) rfl rfl rfl ?_
        refine w_iload (q := 142) rfl rfl rfl ?_
        obtain ⟨h8, h9, k⟩ := k
        refine w_clt (t := 148) (q := 145) rfl rfl rfl h8 h9 (fun c10 => ?_) (fun c10 => ?_)
        · replace k := k.1 c10
          refine w_iload (q := 150) rfl rfl rfl ?_
          refine w_istore (q := 152) (L' := [some (.ref 104), some (w_i l1), some (w_i l2), u3, some (w_i l4), some (w_i l7), some (w_i l6), some (w_i l7), some (w_i (l4 - l7))]) (M' := []) rfl rfl rfl rfl rfl ?_
          refine w_iload (q := 154) rfl rfl rfl ?_
          refine w_istore (q := 156) (L' := [some (.ref 104), some (w_i l1), some (w_i l2), u3, some (w_i l4), some (w_i l7), some (w_i (l4 - l7)), some (w_i l7), some (w_i (l4 - l7))]) (M' := []) rfl rfl rfl rfl rfl ?_
          refine w_iinc (q := 159) (L' := [some (.ref 104), some (w_i l1), some (w_i l2), u3, some (w_i l4), some (w_i l7), some (w_i (l4 - l7)), some (w_i (l7 + 1)), some (w_i (l4 - l7))]) (M' := []) rfl rfl rfl rfl rfl rfl ?_
          refine w_goto (t := 88) rfl rfl ?_
          exact k
        · replace k := k.2 c10
          refine w_goto (t := 156) rfl rfl ?_
          refine w_iinc (q := 159) (L' := [some (.ref 104), some (w_i l1), some (w_i l2), u3, some (w_i l4), some (w_i l5), some (w_i l6), some (w_i (l7 + 1)), some (w_i (l4 - l7))]) (M' := []) rfl rfl rfl rfl rfl rfl ?_
          refine w_goto (t := 88) rfl rfl ?_
          exact k
    · replace k := k.2 c5
      refine w_iload (q := 120) rfl rfl rfl ?_
      refine w_iload (q := 122) rfl rfl rfl ?_
      refine w_isub (q := 123) rfl rfl ?_
      refine w_goto (t := 131) rfl rfl ?_
      refine w_istore (q := 133) (L' := [some (.ref 104), some (w_i l1), some (w_i l2), u3, some (w_i l4), some (w_i l5), some (w_i l6), some (w_i l7), some (w_i (l7 - l4))]) (M' := []) rfl rfl rfl rfl rfl ?_
      refine w_iload (q := 135) rfl rfl rfl ?_
      obtain ⟨h11, k⟩ := k
      refine w_zlt (t := 148) (q := 138) rfl rfl rfl h11 (fun c12 => ?_) (fun c12 => ?_)
      · replace k := k.1 c12
        refine w_iload (q := 150) rfl rfl rfl ?_
        refine w_istore (q := 152) (L' := [some (.ref 104), some (w_i l1), some (w_i l2), u3, some (w_i l4), some (w_i l7), some (w_i l6), some (w_i l7), some (w_i (l7 - l4))]) (M' := []) rfl rfl rfl rfl rfl ?_
        refine w_iload (q := 154) rfl rfl rfl ?_
        refine w_istore (q := 156) (L' := [some (.ref 104), some (w_i l1), some (w_i l2), u3, some (w_i l4), some (w_i l7), some (w_i (l7 - l4)), some (w_i l7), some (w_i (l7 - l4))]) (M' := []) rfl rfl rfl rfl rfl ?_
        refine w_iinc (q := 159) (L' := [some (.ref 104), some (w_i l1), some (w_i l2), u3, some (w_i l4), some (w_i l7), some (w_i (l7 - l4)), some (w_i (l7 + 1)), some (w_i (l7 - l4))]) (M' := []) rfl rfl rfl rfl rfl rfl ?_
        refine w_goto (t := 88) rfl rfl ?_
        exact k
      · replace k := k.2 c12
        refine w_iload (q := 140) rfl rfl rfl ?_
        refine w_iload (q := 142) rfl rfl rfl ?_
        obtain ⟨h13, h14, k⟩ := k
        refine w_clt (t := 148) (q := 145) rfl rfl rfl h13 h14 (fun c15 => ?_) (fun c15 => ?_)
        · replace k := k.1 c15
          refine w_iload (q := 150) rfl rfl rfl ?_
          refine w_istore (q := 152) (L' := [some (.ref 104), some (w_i l1), some (w_i l2), u3, some (w_i l4), some (w_i l7), some (w_i l6), some (w_i l7), some (w_i (l7 - l4))]) (M' := []) rfl rfl rfl rfl rfl ?_
          refine w_iload (q := 154) rfl rfl rfl ?_
          refine w_istore (q := 156) (L' := [some (.ref 104), some (w_i l1), some (w_i l2), u3, some (w_i l4), some (w_i l7), some (w_i (l7 - l4)), some (w_i l7), some (w_i (l7 - l4))]) (M' := []) rfl rfl rfl rfl rfl ?_
          refine w_iinc (q := 159) (L' := [some (.ref 104), some (w_i l1), some (w_i l2), u3, some (w_i l4), some (w_i l7), some (w_i (l7 - l4)), some (w_i (l7 + 1)), some (w_i (l7 - l4))]) (M' := []) rfl rfl rfl rfl rfl rfl ?_
          refine w_goto (t := 88) rfl rfl ?_
          exact k
        · replace k := k.2 c15
          refine w_goto (t := 156) rfl rfl ?_
          refine w_iinc (q := 159) (L' := [some (.ref 104), some (w_i l1), some (w_i l2), u3, some (w_i l4), some (w_i l5), some (w_i l6), some (w_i (l7 + 1)), some (w_i (l7 - l4))]) (M' := []) rfl rfl rfl rfl rfl rfl ?_
          refine w_goto (t := 88) rfl rfl ?_
          exact k
  · replace k := k.2 c2
    refine w_goto (t := 156) rfl rfl ?_
    refine w_iinc (q := 159) (L' := [some (.ref 104), some (w_i l1), some (w_i l2), u3, some (w_i l4), some (w_i l5), some (w_i l6), some (w_i (l7 + 1)), u8]) (M' := []) rfl rfl rfl rfl rfl rfl ?_
    refine w_goto (t := 88) rfl rfl ?_
    exact k
theorem b281_61 {xs : Nat → Int32} {xl : Nat} {I J : w_I} {b : Bool} {Q : Option Value → w_I → w_I → Bool → Prop} {l1 l2 l3 l5 s0 s1 : Int} {u4 u6 u7 u8 : Option Value} (k : ((-2147483648 ≤ s1 ∧ s1 < 2147483648) ∧ (-2147483648 ≤ l3 ∧ l3 < 2147483648) ∧ ((l3 < s1 → w_T xs xl 281 32 [some (.ref 104), some (w_i l1), some (w_i l2), some (w_i l3), some (w_i (s0 + 0)), some (w_i (l5 + 1)), u6, u7, u8] [] [] I J b Q) ∧ (¬ l3 < s1 → w_T xs xl 281 32 [some (.ref 104), some (w_i l1), some (w_i l2), some (w_i l3), some (w_i (s0 + 1)), some (w_i (l5 + 1)), u6, u7, u8] [] [] I J b Q)))) : w_T xs xl 281 61 [some (.ref 104), some (w_i l1), some (w_i l2), some (w_i l3), u4, some (w_i l5), u6, u7, u8] [] [w_i s1, w_i s0] I J b Q := by
  refine w_iload_n (q := 62) rfl rfl rfl ?_
  obtain ⟨h1, h2, k⟩ := k
  refine w_cgt (t := 69) (q := 65) rfl rfl rfl h1 h2 (fun c3 => ?_) (fun c3 => ?_)
  · replace k := k.1 c3
    refine w_iconst (q := 70) rfl rfl ?_
    refine w_iadd (q := 71) rfl rfl ?_
    refine w_istore (q := 73) (L' := [some (.ref 104), some (w_i l1), some (w_i l2), some (w_i l3), some (w_i (s0 + 0)), some (w_i l5), u6, u7, u8]) (M' := []) rfl rfl rfl rfl rfl ?_
    refine w_iinc (q := 76) (L' := [some (.ref 104), some (w_i l1), some (w_i l2), some (w_i l3), some (w_i (s0 + 0)), some (w_i (l5 + 1)), u6, u7, u8]) (M' := []) rfl rfl rfl rfl rfl rfl ?_
    refine w_goto (t := 32) rfl rfl ?_
    exact k
  · replace k := k.2 c3
    refine w_iconst (q := 66) rfl rfl ?_
    refine w_goto (t := 70) rfl rfl ?_
    refine w_iadd (q := 71) rfl rfl ?_
    refine w_istore (q := 73) (L' := [some (.ref 104), some (w_i l1), some (w_i l2), some (w_i l3), some (w_i (s0 + 1)), some (w_i l5), u6, u7, u8]) (M' := []) rfl rfl rfl rfl rfl ?_
    refine w_iinc (q := 76) (L' := [some (.ref 104), some (w_i l1), some (w_i l2), some (w_i l3), some (w_i (s0 + 1)), some (w_i (l5 + 1)), u6, u7, u8]) (M' := []) rfl rfl rfl rfl rfl rfl ?_
    refine w_goto (t := 32) rfl rfl ?_
    exact k
theorem e282 {xs : Nat → Int32} {xl : Nat} {I J : w_I} {b : Bool} {Q : Option Value → w_I → w_I → Bool → Prop} {a1 : Int} (t : w_T xs xl 282 0 [some (.ref 104), some (w_i a1), none, none] [] [] I J b Q) : w_C xs xl 282 [.ref 104, w_i a1] I J b Q := w_en rfl t
theorem b282_0 {xs : Nat → Int32} {xl : Nat} {I J : w_I} {b : Bool} {Q : Option Value → w_I → w_I → Bool → Prop} {a1 : Int} (k : w_C xs xl 238 [.ref 104, w_i (I 110 1), w_i (-1)] I J b (fun v Ic Jc bc => w_T xs xl 282 11 [some (.ref 104), some (w_i a1), none, none] [] (w_pv v []) Ic Jc bc Q)) : w_T xs xl 282 0 [some (.ref 104), some (w_i a1), none, none] [] [] I J b Q := by
  refine w_aload_n (q := 1) rfl rfl rfl ?_
  refine w_aload_n (q := 2) rfl rfl rfl ?_
  refine w_gfr (q := 5) rfl rfl rfl rfl (j := 110) rfl ?_
  refine w_iconst (q := 6) rfl rfl ?_
  refine w_iald (q := 7) (n := 2800) (v := I 110 1) rfl rfl rfl rfl rfl rfl (by decide) ?_
  refine w_iconst (q := 8) rfl rfl ?_
  refine w_callv (q := 11) rfl rfl rfl rfl rfl rfl ?_
  exact k
theorem b282_11 {xs : Nat → Int32} {xl : Nat} {I J : w_I} {b : Bool} {Q : Option Value → w_I → w_I → Bool → Prop} {l1 : Int} {u2 u3 : Option Value} (k : ((-2147483648 ≤ l1 ∧ l1 < 2147483648) ∧ ((l1 < 0 → w_T xs xl 282 58 [some (.ref 104), some (w_i l1), some (w_i 0), some (w_i 0)] [] [] I J b Q) ∧ (¬ l1 < 0 → ((-2147483648 ≤ I 104 36 ∧ I 104 36 < 2147483648) ∧ (-2147483648 ≤ I 110 0 ∧ I 110 0 < 2147483648) ∧ ((¬ I 104 36 = I 110 0 → ((0 ≤ 100 + 6 * l1 + 5 ∧ 100 + 6 * l1 + 5 < 2800) ∧ w_C xs xl 239 [.ref 104, w_i (I 110 (100 + 6 * l1 + 5))] I J b (fun v Ic Jc bc => w_T xs xl 282 54 [some (.ref 104), some (w_i l1), u2, u3] [] (w_pv v []) Ic Jc bc Q))) ∧ (I 104 36 = I 110 0 → w_C xs xl 279 [.ref 104, w_i l1] I J b (fun v Ic Jc bc => w_T xs xl 282 33 [some (.ref 104), some (w_i l1), u2, u3] [] (w_pv v []) Ic Jc bc Q)))))))) : w_T xs xl 282 11 [some (.ref 104), some (w_i l1), u2, u3] [] [] I J b Q := by
  refine w_iload_n (q := 12) rfl rfl rfl ?_
  obtain ⟨h1, k⟩ := k
  refine w_zlt (t := 54) (q := 15) rfl rfl rfl h1 (fun c2 => ?_) (fun c2 => ?_)
  · replace k := k.1 c2
    refine w_iconst (q := 55) rfl rfl ?_
    refine w_istore_n (q := 56) (L' := [some (.ref 104), some (w_i l1), some (w_i 0), u3]) (M' := []) rfl rfl rfl rfl rfl ?_
    refine w_iconst (q := 57) rfl rfl ?_
    refine w_istore_n (q := 58) (L' := [some (.ref 104), some (w_i l1), some (w_i 0), some (w_i 0)]) (M' := []) rfl rfl rfl rfl rfl ?_
    exact k
  · replace k := k.2 c2
    refine w_aload_n (q := 16) rfl rfl rfl ?_
    refine w_gfi (q := 19) (k' := 36) (v := I 104 36) rfl rfl rfl rfl rfl rfl rfl ?_
    refine w_aload_n (q := 20) rfl rfl rfl ?_
    refine w_gfr (q := 23) rfl rfl rfl rfl (j := 110) rfl ?_
    refine w_iconst (q := 24) rfl rfl ?_
    refine w_iald (q := 25) (n := 2800) (v := I 110 0) rfl rfl rfl rfl rfl rfl (by decide) ?_
    obtain ⟨h3, h4, k⟩ := k
    refine w_cne (t := 36) (q := 28) rfl rfl rfl h3 h4 (fun c5 => ?_) (fun c5 => ?_)
    · replace k := k.1 c5
      refine w_aload_n (q := 37) rfl rfl rfl ?_
      refine w_aload_n (q := 38) rfl rfl rfl ?_
      refine w_gfr (q := 41) rfl rfl rfl rfl (j := 110) rfl ?_
      refine w_bipush (q := 43) rfl rfl rfl ?_
      refine w_bipush (q := 45) rfl rfl rfl ?_
      refine w_iload_n (q := 46) rfl rfl rfl ?_
      refine w_imul (q := 47) rfl rfl ?_
      refine w_iadd (q := 48) rfl rfl ?_
      refine w_iconst (q := 49) rfl rfl ?_
      refine w_iadd (q := 50) rfl rfl ?_
      obtain ⟨h6, k⟩ := k
      refine w_iald (q := 51) (n := 2800) (v := I 110 (100 + 6 * l1 + 5)) rfl rfl rfl rfl rfl rfl h6 ?_
      refine w_callv (q := 54) rfl rfl rfl rfl rfl rfl ?_
      exact k
    · replace k := k.2 c5
      refine w_aload_n (q := 29) rfl rfl rfl ?_
      refine w_iload_n (q := 30) rfl rfl rfl ?_
      refine w_callv (q := 33) rfl rfl rfl rfl rfl rfl ?_
      exact k
theorem b282_58 {xs : Nat → Int32} {xl : Nat} {I J : w_I} {b : Bool} {Q : Option Value → w_I → w_I → Bool → Prop} {u1 : Option Value} {l2 l3 : Int} (k : ((-2147483648 ≤ l3 ∧ l3 < 2147483648) ∧ (-2147483648 ≤ I 104 36 ∧ I 104 36 < 2147483648) ∧ ((I 104 36 ≤ l3 → w_C xs xl 249 [.ref 104] I J b (fun v Ic Jc bc => w_T xs xl 282 127 [some (.ref 104), u1, some (w_i l2), some (w_i l3)] [] (w_pv v []) Ic Jc bc Q)) ∧ (¬ I 104 36 ≤ l3 → ((0 ≤ l3 ∧ l3 < 32) ∧ ((-2147483648 ≤ I 128 l3 ∧ I 128 l3 < 2147483648) ∧ ((I 128 l3 < 0 → w_T xs xl 282 58 [some (.ref 104), u1, some (w_i (l2 + 0)), some (w_i (l3 + 1))] [] [] (w_U I 133 l3 (I 110 0 - I 104 36 + l3)) J b Q) ∧ (¬ I 128 l3 < 0 → ((-2147483648 ≤ I 110 0 - I 104 36 + l3 ∧ I 110 0 - I 104 36 + l3 < 2147483648) ∧ ((I 128 l3 = I 110 0 - I 104 36 + l3 → w_T xs xl 282 58 [some (.ref 104), u1, some (w_i (l2 + 0)), some (w_i (l3 + 1))] [] [] (w_U I 133 l3 (I 110 0 - I 104 36 + l3)) J b Q) ∧ (¬ I 128 l3 = I 110 0 - I 104 36 + l3 → w_T xs xl 282 58 [some (.ref 104), u1, some (w_i (l2 + 1)), some (w_i (l3 + 1))] [] [] (w_U I 133 l3 (I 110 0 - I 104 36 + l3)) J b Q))))))))))) : w_T xs xl 282 58 [some (.ref 104), u1, some (w_i l2), some (w_i l3)] [] [] I J b Q := by
  refine w_iload_n (q := 59) rfl rfl rfl ?_
  refine w_aload_n (q := 60) rfl rfl rfl ?_
  refine w_gfi (q := 63) (k' := 36) (v := I 104 36) rfl rfl rfl rfl rfl rfl rfl ?_
  obtain ⟨h1, h2, k⟩ := k
  refine w_cge (t := 123) (q := 66) rfl rfl rfl h1 h2 (fun c3 => ?_) (fun c3 => ?_)
  · replace k := k.1 c3
    refine w_aload_n (q := 124) rfl rfl rfl ?_
    refine w_callv (q := 127) rfl rfl rfl rfl rfl rfl ?_
    exact k
  · replace k := k.2 c3
    refine w_aload_n (q := 67) rfl rfl rfl ?_
    refine w_gfr (q := 70) rfl rfl rfl rfl (j := 133) rfl ?_
    refine w_iload_n (q := 71) rfl rfl rfl ?_
    refine w_aload_n (q := 72) rfl rfl rfl ?_
    refine w_gfr (q := 75) rfl rfl rfl rfl (j := 110) rfl ?_
    refine w_iconst (q := 76) rfl rfl ?_
    refine w_iald (q := 77) (n := 2800) (v := I 110 0) rfl rfl rfl rfl rfl rfl (by decide) ?_
    refine w_aload_n (q := 78) rfl rfl rfl ?_
    refine w_gfi (q := 81) (k' := 36) (v := I 104 36) rfl rfl rfl rfl rfl rfl rfl ?_
    refine w_isub (q := 82) rfl rfl ?_
    refine w_iload_n (q := 83) rfl rfl rfl ?_
    refine w_iadd (q := 84) rfl rfl ?_
    obtain ⟨h4, k⟩ := k
    refine w_iast (q := 85) (n := 32) rfl rfl rfl rfl rfl h4 ?_
    refine w_iload_n (q := 86) rfl rfl rfl ?_
    refine w_aload_n (q := 87) rfl rfl rfl ?_
    refine w_gfr (q := 90) rfl rfl rfl rfl (j := 128) rfl ?_
    refine w_iload_n (q := 91) rfl rfl rfl ?_
    refine w_iald (q := 92) (n := 32) (v := I 128 l3) rfl rfl rfl rfl rfl rfl h4 ?_
    obtain ⟨h5, k⟩ := k
    refine w_zlt (t := 114) (q := 95) rfl rfl rfl h5 (fun c6 => ?_) (fun c6 => ?_)
    · replace k := k.1 c6
      refine w_iconst (q := 115) rfl rfl ?_
      refine w_iadd (q := 116) rfl rfl ?_
      refine w_istore_n (q := 117) (L' := [some (.ref 104), u1, some (w_i (l2 + 0)), some (w_i l3)]) (M' := []) rfl rfl rfl rfl rfl ?_
      refine w_iinc (q := 120) (L' := [some (.ref 104), u1, some (w_i (l2 + 0)), some (w_i (l3 + 1))]) (M' := []) rfl rfl rfl rfl rfl rfl ?_
      refine w_goto (t := 58) rfl rfl ?_
      exact k
    · replace k := k.2 c6
      refine w_aload_n (q := 96) rfl rfl rfl ?_
      refine w_gfr (q := 99) rfl rfl rfl rfl (j := 128) rfl ?_
      refine w_iload_n (q := 100) rfl rfl rfl ?_
      refine w_iald (q := 101) (n := 32) (v := I 128 l3) rfl rfl rfl rfl rfl rfl h4 ?_
      refine w_aload_n (q := 102) rfl rfl rfl ?_
      refine w_gfr (q := 105) rfl rfl rfl rfl (j := 133) rfl ?_
      refine w_iload_n (q := 106) rfl rfl rfl ?_
      refine w_iald (q := 107) (n := 32) (v := I 110 0 - I 104 36 + l3) rfl rfl rfl rfl rfl (by simp only [w_Ug, w_cpg, reduceIte, Nat.reduceEqDiff, Int.reduceEq, Int.reduceNeg, eq_self]) h4 ?_
      obtain ⟨h7, k⟩ := k
      refine w_ceq (t := 114) (q := 110) rfl rfl rfl h5 h7 (fun c8 => ?_) (fun c8 => ?_)
      · replace k := k.1 c8
        refine w_iconst (q := 115) rfl rfl ?_
        refine w_iadd (q := 116) rfl rfl ?_
        refine w_istore_n (q := 117) (L' := [some (.ref 104), u1, some (w_i (l2 + 0)), some (w_i l3)]) (M' := []) rfl rfl rfl rfl rfl ?_
        refine w_iinc (q := 120) (L' := [some (.ref 104), u1, some (w_i (l2 + 0)), some (w_i (l3 + 1))]) (M' := []) rfl rfl rfl rfl rfl rfl ?_
        refine w_goto (t := 58) rfl rfl ?_
        exact k
      · replace k := k.2 c8
        refine w_iconst (q := 111) rfl rfl ?_
        refine w_goto (t := 115) rfl rfl ?_
        refine w_iadd (q := 116) rfl rfl ?_
        refine w_istore_n (q := 117) (L' := [some (.ref 104), u1, some (w_i (l2 + 1)), some (w_i l3)]) (M' := []) rfl rfl rfl rfl rfl ?_
        refine w_iinc (q := 120) (L' := [some (.ref 104), u1, some (w_i (l2 + 1)), some (w_i (l3 + 1))]) (M' := []) rfl rfl rfl rfl rfl rfl ?_
        refine w_goto (t := 58) rfl rfl ?_
        exact k
theorem b282_54 {xs : Nat → Int32} {xl : Nat} {I J : w_I} {b : Bool} {Q : Option Value → w_I → w_I → Bool → Prop} {u1 u2 u3 : Option Value} (k : w_T xs xl 282 58 [some (.ref 104), u1, some (w_i 0), some (w_i 0)] [] [] I J b Q) : w_T xs xl 282 54 [some (.ref 104), u1, u2, u3] [] [] I J b Q := by
  refine w_iconst (q := 55) rfl rfl ?_
  refine w_istore_n (q := 56) (L' := [some (.ref 104), u1, some (w_i 0), u3]) (M' := []) rfl rfl rfl rfl rfl ?_
  refine w_iconst (q := 57) rfl rfl ?_
  refine w_istore_n (q := 58) (L' := [some (.ref 104), u1, some (w_i 0), some (w_i 0)]) (M' := []) rfl rfl rfl rfl rfl ?_
  exact k
theorem b282_33 {xs : Nat → Int32} {xl : Nat} {I J : w_I} {b : Bool} {Q : Option Value → w_I → w_I → Bool → Prop} {u1 u2 u3 : Option Value} (k : w_T xs xl 282 58 [some (.ref 104), u1, some (w_i 0), some (w_i 0)] [] [] I J b Q) : w_T xs xl 282 33 [some (.ref 104), u1, u2, u3] [] [] I J b Q := by
  refine w_goto (t := 54) rfl rfl ?_
  refine w_iconst (q := 55) rfl rfl ?_
  refine w_istore_n (q := 56) (L' := [some (.ref 104), u1, some (w_i 0), u3]) (M' := []) rfl rfl rfl rfl rfl ?_
  refine w_iconst (q := 57) rfl rfl ?_
  refine w_istore_n (q := 58) (L' := [some (.ref 104), u1, some (w_i 0), some (w_i 0)]) (M' := []) rfl rfl rfl rfl rfl ?_
  exact k
theorem b282_127 {xs : Nat → Int32} {xl : Nat} {I J : w_I} {b : Bool} {Q : Option Value → w_I → w_I → Bool → Prop} {u1 u3 : Option Value} {l2 : Int} (k : Q (some (w_i l2)) I J b) : w_T xs xl 282 127 [some (.ref 104), u1, some (w_i l2), u3] [] [] I J b Q := by
  refine w_iload_n (q := 128) rfl rfl rfl ?_
  exact w_iret rfl rfl k
theorem e283 {xs : Nat → Int32} {xl : Nat} {I J : w_I} {b : Bool} {Q : Option Value → w_I → w_I → Bool → Prop} {a1 a2 a3 : Int} (t : w_T xs xl 283 0 [some (.ref 104), some (w_i a1), some (w_i a2), some (w_i a3), none, none] [] [] I J b Q) : w_C xs xl 283 [.ref 104, w_i a1, w_i a2, w_i a3] I J b Q := w_en rfl t
theorem b283_0 {xs : Nat → Int32} {xl : Nat} {I J : w_I} {b : Bool} {Q : Option Value → w_I → w_I → Bool → Prop} {a1 a2 a3 : Int} (k : w_T xs xl 283 15 [some (.ref 104), some (w_i a1), some (w_i a2), some (w_i a3), some (w_i 0), none] [] [] (w_U I 110 9 (I 110 9 + 12)) J b Q) : w_T xs xl 283 0 [some (.ref 104), some (w_i a1), some (w_i a2), some (w_i a3), none, none] [] [] I J b Q := by
  refine w_aload_n (q := 1) rfl rfl rfl ?_
  refine w_gfr (q := 4) rfl rfl rfl rfl (j := 110) rfl ?_
  refine w_bipush (q := 6) rfl rfl rfl ?_
  refine w_dup2 (q := 7) rfl rfl rfl rfl ?_
  refine w_iald (q := 8) (n := 2800) (v := I 110 9) rfl rfl rfl rfl rfl rfl (by decide) ?_
  refine w_bipush (q := 10) rfl rfl rfl ?_
  refine w_iadd (q := 11) rfl rfl ?_
  refine w_iast (q := 12) (n := 2800) rfl rfl rfl rfl rfl (by decide) ?_
  refine w_iconst (q := 13) rfl rfl ?_
  refine w_istore (q := 15) (L' := [some (.ref 104), some (w_i a1), some (w_i a2), some (w_i a3), some (w_i 0), none]) (M' := []) rfl rfl rfl rfl rfl ?_
  exact k
theorem b283_15 {xs : Nat → Int32} {xl : Nat} {I J : w_I} {b : Bool} {Q : Option Value → w_I → w_I → Bool → Prop} {l1 l2 l3 l4 : Int} {u5 : Option Value} (k : ((-2147483648 ≤ l4 ∧ l4 < 2147483648) ∧ (-2147483648 ≤ I 110 7 ∧ I 110 7 < 2147483648) ∧ ((I 110 7 ≤ l4 → ((60 ≤ I 110 7 → ((-2147483648 ≤ l3 ∧ l3 < 2147483648) ∧ ((¬ l3 = 0 → ((¬ l3 = 2 → w_C xs xl 281 [.ref 104, w_i (-1)] I J b (fun v Ic Jc bc => w_T xs xl 283 223 [some (.ref 104), some (w_i l1), some (w_i l2), some (w_i l3), some (w_i (-1)), u5] [] (w_pv v []) Ic Jc bc Q)) ∧ (l3 = 2 → w_C xs xl 282 [.ref 104, w_i (-1)] I J b (fun v Ic Jc bc => w_T xs xl 283 216 [some (.ref 104), some (w_i l1), some (w_i l2), some (w_i l3), some (w_i (-1)), u5] [] (w_pv v []) Ic Jc bc Q)))) ∧ (l3 = 0 → w_C xs xl 280 [.ref 104, w_i (-1)] I J b (fun v Ic Jc bc => w_T xs xl 283 195 [some (.ref 104), some (w_i l1), some (w_i l2), some (w_i l3), some (w_i (-1)), u5] [] (w_pv v []) Ic Jc bc Q))))) ∧ (¬ 60 ≤ I 110 7 → ((-2147483648 ≤ I 110 8 ∧ I 110 8 < 2147483648) ∧ ((30 ≤ I 110 8 → ((-2147483648 ≤ l3 ∧ l3 < 2147483648) ∧ ((¬ l3 = 0 → ((¬ l3 = 2 → w_C xs xl 281 [.ref 104, w_i (-1)] I J b (fun v Ic Jc bc => w_T xs xl 283 223 [some (.ref 104), some (w_i l1), some (w_i l2), some (w_i l3), some (w_i (-1)), u5] [] (w_pv v []) Ic Jc bc Q)) ∧ (l3 = 2 → w_C xs xl 282 [.ref 104, w_i (-1)] I J b (fun v Ic Jc bc => w_T xs xl 283 216 [some (.ref 104), some (w_i l1), some (w_i l2), some (w_i l3), some (w_i (-1)), u5] [] (w_pv v []) Ic Jc bc Q)))) ∧ (l3 = 0 → w_C xs xl 280 [.ref 104, w_i (-1)] I J b (fun v Ic Jc bc => w_T xs xl 283 195 [some (.ref 104), some (w_i l1), some (w_i l2), some (w_i l3), some (w_i (-1)), u5] [] (w_pv v []) Ic Jc bc Q))))) ∧ (¬ 30 ≤ I 110 8 → w_C xs xl 277 [w_i l1, w_i (200 * l2 + 100), w_i 100] I J b (fun v Ic Jc bc => w_T xs xl 283 132 [some (.ref 104), some (w_i l1), some (w_i l2), some (w_i l3), some (w_i (-1)), u5] [] (w_pv v []) Ic Jc bc Q))))))) ∧ (¬ I 110 7 ≤ l4 → w_C xs xl 210 [.ref 104, w_i l4] I J b (fun v Ic Jc bc => w_T xs xl 283 33 [some (.ref 104), some (w_i l1), some (w_i l2), some (w_i l3), some (w_i l4), u5] [] (w_pv v []) Ic Jc bc Q))))) : w_T xs xl 283 15 [some (.ref 104), some (w_i l1), some (w_i l2), some (w_i l3), some (w_i l4), u5] [] [] I J b Q := by
  refine w_iload (q := 17) rfl rfl rfl ?_
  refine w_aload_n (q := 18) rfl rfl rfl ?_
  refine w_gfr (q := 21) rfl rfl rfl rfl (j := 110) rfl ?_
  refine w_bipush (q := 23) rfl rfl rfl ?_
  refine w_iald (q := 24) (n := 2800) (v := I 110 7) rfl rfl rfl rfl rfl rfl (by decide) ?_
  obtain ⟨h1, h2, k⟩ := k
  refine w_cge (t := 91) (q := 27) rfl rfl rfl h1 h2 (fun c3 => ?_) (fun c3 => ?_)
  · replace k := k.1 c3
    refine w_iconst (q := 92) rfl rfl ?_
    refine w_istore (q := 94) (L' := [some (.ref 104), some (w_i l1), some (w_i l2), some (w_i l3), some (w_i (-1)), u5]) (M' := []) rfl rfl rfl rfl rfl ?_
    refine w_aload_n (q := 95) rfl rfl rfl ?_
    refine w_gfr (q := 98) rfl rfl rfl rfl (j := 110) rfl ?_
    refine w_bipush (q := 100) rfl rfl rfl ?_
    refine w_iald (q := 101) (n := 2800) (v := I 110 7) rfl rfl rfl rfl rfl rfl (by decide) ?_
    refine w_bipush (q := 103) rfl rfl rfl ?_
    refine w_cge (t := 185) (q := 106) rfl rfl rfl h2 (by decide) (fun c4 => ?_) (fun c4 => ?_)
    · replace k := k.1 c4
      refine w_iload_n (q := 186) rfl rfl rfl ?_
      obtain ⟨h5, k⟩ := k
      refine w_zne (t := 205) (q := 189) rfl rfl rfl h5 (fun c6 => ?_) (fun c6 => ?_)
      · replace k := k.1 c6
        refine w_iload_n (q := 206) rfl rfl rfl ?_
        refine w_iconst (q := 207) rfl rfl ?_
        refine w_cne (t := 217) (q := 210) rfl rfl rfl h5 (by decide) (fun c7 => ?_) (fun c7 => ?_)
        · replace k := k.1 c7
          refine w_aload_n (q := 218) rfl rfl rfl ?_
          refine w_iload (q := 220) rfl rfl rfl ?_
          refine w_callv (q := 223) rfl rfl rfl rfl rfl rfl ?_
          exact k
        · replace k := k.2 c7
          refine w_aload_n (q := 211) rfl rfl rfl ?_
          refine w_iload (q := 213) rfl rfl rfl ?_
          refine w_callv (q := 216) rfl rfl rfl rfl rfl rfl ?_
          exact k
      · replace k := k.2 c6
        refine w_aload_n (q := 190) rfl rfl rfl ?_
        refine w_iload (q := 192) rfl rfl rfl ?_
        refine w_callv (q := 195) rfl rfl rfl rfl rfl rfl ?_
        exact k
    · replace k := k.2 c4
      refine w_aload_n (q := 107) rfl rfl rfl ?_
      refine w_gfr (q := 110) rfl rfl rfl rfl (j := 110) rfl ?_
      refine w_bipush (q := 112) rfl rfl rfl ?_
      refine w_iald (q := 113) (n := 2800) (v := I 110 8) rfl rfl rfl rfl rfl rfl (by decide) ?_
      refine w_bipush (q := 115) rfl rfl rfl ?_
      obtain ⟨h8, k⟩ := k
      refine w_cge (t := 185) (q := 118) rfl rfl rfl h8 (by decide) (fun c9 => ?_) (fun c9 => ?_)
      · replace k := k.1 c9
        refine w_iload_n (q := 186) rfl rfl rfl ?_
        obtain ⟨h10, k⟩ := k
        refine w_zne (t := 205) (q := 189) rfl rfl rfl h10 (fun c11 => ?_) (fun c11 => ?_)
        · replace k := k.1 c11
          refine w_iload_n (q := 206) rfl rfl rfl ?_
          refine w_iconst (q := 207) rfl rfl ?_
          refine w_cne (t := 217) (q := 210) rfl rfl rfl h10 (by decide) (fun c12 => ?_) (fun c12 => ?_)
          · replace k := k.1 c12
            refine w_aload_n (q := 218) rfl rfl rfl ?_
            refine w_iload (q := 220) rfl rfl rfl ?_
            refine w_callv (q := 223) rfl rfl rfl rfl rfl rfl ?_
            exact k
          · replace k := k.2 c12
            refine w_aload_n (q := 211) rfl rfl rfl ?_
            refine w_iload (q := 213) rfl rfl rfl ?_
            refine w_callv (q := 216) rfl rfl rfl rfl rfl rfl ?_
            exact k
        · replace k := k.2 c11
          refine w_aload_n (q := 190) rfl rfl rfl ?_
          refine w_iload (q := 192) rfl rfl rfl ?_
          refine w_callv (q := 195) rfl rfl rfl rfl rfl rfl ?_
          exact k
      · replace k := k.2 c9
        refine w_iload_n (q := 119) rfl rfl rfl ?_
        refine w_sipush (q := 122) rfl rfl rfl ?_
        refine w_iload_n (q := 123) rfl rfl rfl ?_
        refine w_imul (q := 124) rfl rfl ?_
        refine w_bipush (q := 126) rfl rfl rfl ?_
        refine w_iadd (q := 127) rfl rfl ?_
        refine w_bipush (q := 129) rfl rfl rfl ?_
        refine w_call (q := 132) rfl rfl rfl rfl rfl ?_
        exact k
  · replace k := k.2 c3
    refine w_aload_n (q := 28) rfl rfl rfl ?_
    refine w_iload (q := 30) rfl rfl rfl ?_
    refine w_callv (q := 33) rfl rfl rfl rfl rfl rfl ?_
    exact k
theorem b283_223 {xs : Nat → Int32} {xl : Nat} {I J : w_I} {b : Bool} {Q : Option Value → w_I → w_I → Bool → Prop} {u1 u2 u4 u5 : Option Value} {l3 : Int} (k : ((-2147483648 ≤ l3 ∧ l3 < 2147483648) ∧ ((¬ l3 = 3 → Q (some (w_i 0)) I J b) ∧ (l3 = 3 → w_C xs xl 233 [.ref 104, w_i 0] I J b (fun v Ic Jc bc => w_T xs xl 283 233 [some (.ref 104), u1, u2, some (w_i l3), u4, u5] [] (w_pv v []) Ic Jc bc Q))))) : w_T xs xl 283 223 [some (.ref 104), u1, u2, some (w_i l3), u4, u5] [] [] I J b Q := by
  refine w_iload_n (q := 224) rfl rfl rfl ?_
  refine w_iconst (q := 225) rfl rfl ?_
  obtain ⟨h1, k⟩ := k
  refine w_cne (t := 243) (q := 228) rfl rfl rfl h1 (by decide) (fun c2 => ?_) (fun c2 => ?_)
  · replace k := k.1 c2
    refine w_iconst (q := 244) rfl rfl ?_
    exact w_iret rfl rfl k
  · replace k := k.2 c2
    refine w_aload_n (q := 229) rfl rfl rfl ?_
    refine w_iconst (q := 230) rfl rfl ?_
    refine w_callv (q := 233) rfl rfl rfl rfl rfl rfl ?_
    exact k
theorem b283_216 {xs : Nat → Int32} {xl : Nat} {I J : w_I} {b : Bool} {Q : Option Value → w_I → w_I → Bool → Prop} {u1 u2 u3 u4 u5 : Option Value} {s0 : Int} (k : Q (some (w_i s0)) I J b) : w_T xs xl 283 216 [some (.ref 104), u1, u2, u3, u4, u5] [] [w_i s0] I J b Q := by
  exact w_iret rfl rfl k
theorem b283_195 {xs : Nat → Int32} {xl : Nat} {I J : w_I} {b : Bool} {Q : Option Value → w_I → w_I → Bool → Prop} {u1 u2 u3 u4 u5 : Option Value} {s0 : Int} (k : w_C xs xl 278 [.ref 104] I J b (fun v Ic Jc bc => w_T xs xl 283 203 [some (.ref 104), u1, u2, u3, u4, some (w_i s0)] [] (w_pv v [w_i s0]) Ic Jc bc Q)) : w_T xs xl 283 195 [some (.ref 104), u1, u2, u3, u4, u5] [] [w_i s0] I J b Q := by
  refine w_istore (q := 197) (L' := [some (.ref 104), u1, u2, u3, u4, some (w_i s0)]) (M' := []) rfl rfl rfl rfl rfl ?_
  refine w_iload (q := 199) rfl rfl rfl ?_
  refine w_aload_n (q := 200) rfl rfl rfl ?_
  refine w_callv (q := 203) rfl rfl rfl rfl rfl rfl ?_
  exact k
theorem b283_132 {xs : Nat → Int32} {xl : Nat} {I J : w_I} {b : Bool} {Q : Option Value → w_I → w_I → Bool → Prop} {l1 l2 l3 l4 s0 : Int} {u5 : Option Value} (k : ((-2147483648 ≤ s0 ∧ s0 < 2147483648) ∧ ((50 ≤ s0 → ((-2147483648 ≤ l3 ∧ l3 < 2147483648) ∧ ((¬ l3 = 0 → ((¬ l3 = 2 → w_C xs xl 281 [.ref 104, w_i l4] I J b (fun v Ic Jc bc => w_T xs xl 283 223 [some (.ref 104), some (w_i l1), some (w_i l2), some (w_i l3), some (w_i l4), u5] [] (w_pv v []) Ic Jc bc Q)) ∧ (l3 = 2 → w_C xs xl 282 [.ref 104, w_i l4] I J b (fun v Ic Jc bc => w_T xs xl 283 216 [some (.ref 104), some (w_i l1), some (w_i l2), some (w_i l3), some (w_i l4), u5] [] (w_pv v []) Ic Jc bc Q)))) ∧ (l3 = 0 → w_C xs xl 280 [.ref 104, w_i l4] I J b (fun v Ic Jc bc => w_T xs xl 283 195 [some (.ref 104), some (w_i l1), some (w_i l2), some (w_i l3), some (w_i l4), u5] [] (w_pv v []) Ic Jc bc Q))))) ∧ (¬ 50 ≤ s0 → w_C xs xl 277 [w_i l1, w_i (200 * l2 + 101), w_i 90] I J b (fun v Ic Jc bc => w_T xs xl 283 151 [some (.ref 104), some (w_i l1), some (w_i l2), some (w_i l3), some (w_i l4), u5] [] (w_pv v []) Ic Jc bc Q))))) : w_T xs xl 283 132 [some (.ref 104), some (w_i l1), some (w_i l2), some (w_i l3), some (w_i l4), u5] [] [w_i s0] I J b Q := by
  refine w_bipush (q := 134) rfl rfl rfl ?_
  obtain ⟨h1, k⟩ := k
  refine w_cge (t := 185) (q := 137) rfl rfl rfl h1 (by decide) (fun c2 => ?_) (fun c2 => ?_)
  · replace k := k.1 c2
    refine w_iload_n (q := 186) rfl rfl rfl ?_
    obtain ⟨h3, k⟩ := k
    refine w_zne (t := 205) (q := 189) rfl rfl rfl h3 (fun c4 => ?_) (fun c4 => ?_)
    · replace k := k.1 c4
      refine w_iload_n (q := 206) rfl rfl rfl ?_
      refine w_iconst (q := 207) rfl rfl ?_
      refine w_cne (t := 217) (q := 210) rfl rfl rfl h3 (by decide) (fun c5 => ?_) (fun c5 => ?_)
      · replace k := k.1 c5
        refine w_aload_n (q := 218) rfl rfl rfl ?_
        refine w_iload (q := 220) rfl rfl rfl ?_
        refine w_callv (q := 223) rfl rfl rfl rfl rfl rfl ?_
        exact k
      · replace k := k.2 c5
        refine w_aload_n (q := 211) rfl rfl rfl ?_
        refine w_iload (q := 213) rfl rfl rfl ?_
        refine w_callv (q := 216) rfl rfl rfl rfl rfl rfl ?_
        exact k
    · replace k := k.2 c4
      refine w_aload_n (q := 190) rfl rfl rfl ?_
      refine w_iload (q := 192) rfl rfl rfl ?_
      refine w_callv (q := 195) rfl rfl rfl rfl rfl rfl ?_
      exact k
  · replace k := k.2 c2
    refine w_iload_n (q := 138) rfl rfl rfl ?_
    refine w_sipush (q := 141) rfl rfl rfl ?_
    refine w_iload_n (q := 142) rfl rfl rfl ?_
    refine w_imul (q := 143) rfl rfl ?_
    refine w_bipush (q := 145) rfl rfl rfl ?_
    refine w_iadd (q := 146) rfl rfl ?_
    refine w_bipush (q := 148) rfl rfl rfl ?_
    refine w_call (q := 151) rfl rfl rfl rfl rfl ?_
    exact k
theorem b283_33 {xs : Nat → Int32} {xl : Nat} {I J : w_I} {b : Bool} {Q : Option Value → w_I → w_I → Bool → Prop} {l1 l2 l3 l4 s0 : Int} {u5 : Option Value} (k : ((-2147483648 ≤ s0 ∧ s0 < 2147483648) ∧ ((s0 = 0 → w_T xs xl 283 15 [some (.ref 104), some (w_i l1), some (w_i l2), some (w_i l3), some (w_i (l4 + 1)), u5] [] [] I J b Q) ∧ (¬ s0 = 0 → w_C xs xl 277 [w_i l1, w_i (200 * l2 + l4), w_i 100] I J b (fun v Ic Jc bc => w_T xs xl 283 50 [some (.ref 104), some (w_i l1), some (w_i l2), some (w_i l3), some (w_i l4), u5] [] (w_pv v []) Ic Jc bc Q))))) : w_T xs xl 283 33 [some (.ref 104), some (w_i l1), some (w_i l2), some (w_i l3), some (w_i l4), u5] [] [w_i s0] I J b Q := by
  obtain ⟨h1, k⟩ := k
  refine w_zeq (t := 85) (q := 36) rfl rfl rfl h1 (fun c2 => ?_) (fun c2 => ?_)
  · replace k := k.1 c2
    refine w_iinc (q := 88) (L' := [some (.ref 104), some (w_i l1), some (w_i l2), some (w_i l3), some (w_i (l4 + 1)), u5]) (M' := []) rfl rfl rfl rfl rfl rfl ?_
    refine w_goto (t := 15) rfl rfl ?_
    exact k
  · replace k := k.2 c2
    refine w_iload_n (q := 37) rfl rfl rfl ?_
    refine w_sipush (q := 40) rfl rfl rfl ?_
    refine w_iload_n (q := 41) rfl rfl rfl ?_
    refine w_imul (q := 42) rfl rfl ?_
    refine w_iload (q := 44) rfl rfl rfl ?_
    refine w_iadd (q := 45) rfl rfl ?_
    refine w_bipush (q := 47) rfl rfl rfl ?_
    refine w_call (q := 50) rfl rfl rfl rfl rfl ?_
    exact k
theorem b283_233 {xs : Nat → Int32} {xl : Nat} {I J : w_I} {b : Bool} {Q : Option Value → w_I → w_I → Bool → Prop} {u1 u2 u3 u4 u5 : Option Value} {s0 : Int} (k : ((-2147483648 ≤ s0 ∧ s0 < 2147483648) ∧ ((s0 ≤ 0 → Q (some (w_i 0)) I J b) ∧ (¬ s0 ≤ 0 → w_C xs xl 278 [.ref 104] I J b (fun v Ic Jc bc => w_T xs xl 283 240 [some (.ref 104), u1, u2, u3, u4, u5] [] (w_pv v []) Ic Jc bc Q))))) : w_T xs xl 283 233 [some (.ref 104), u1, u2, u3, u4, u5] [] [w_i s0] I J b Q := by
  obtain ⟨h1, k⟩ := k
  refine w_zle (t := 243) (q := 236) rfl rfl rfl h1 (fun c2 => ?_) (fun c2 => ?_)
  · replace k := k.1 c2
    refine w_iconst (q := 244) rfl rfl ?_
    exact w_iret rfl rfl k
  · replace k := k.2 c2
    refine w_aload_n (q := 237) rfl rfl rfl ?_
    refine w_callv (q := 240) rfl rfl rfl rfl rfl rfl ?_
    exact k
theorem b283_203 {xs : Nat → Int32} {xl : Nat} {I J : w_I} {b : Bool} {Q : Option Value → w_I → w_I → Bool → Prop} {u1 u2 u3 u4 u5 : Option Value} {s0 s1 : Int} (k : Q (some (w_i (s0 + s1))) I J b) : w_T xs xl 283 203 [some (.ref 104), u1, u2, u3, u4, u5] [] [w_i s1, w_i s0] I J b Q := by
  refine w_iadd (q := 204) rfl rfl ?_
  exact w_iret rfl rfl k
theorem b283_151 {xs : Nat → Int32} {xl : Nat} {I J : w_I} {b : Bool} {Q : Option Value → w_I → w_I → Bool → Prop} {l1 l2 l3 s0 : Int} {u4 u5 : Option Value} (k : w_C xs xl 277 [w_i l1, w_i (200 * l2 + 102), w_i 9] I J b (fun v Ic Jc bc => w_T xs xl 283 172 [some (.ref 104), some (w_i l1), some (w_i l2), some (w_i l3), u4, some (w_i s0)] [] (w_pv v [w_i s0, w_i s0, .ref 104]) Ic Jc bc Q)) : w_T xs xl 283 151 [some (.ref 104), some (w_i l1), some (w_i l2), some (w_i l3), u4, u5] [] [w_i s0] I J b Q := by
  refine w_istore (q := 153) (L' := [some (.ref 104), some (w_i l1), some (w_i l2), some (w_i l3), u4, some (w_i s0)]) (M' := []) rfl rfl rfl rfl rfl ?_
  refine w_aload_n (q := 154) rfl rfl rfl ?_
  refine w_iload (q := 156) rfl rfl rfl ?_
  refine w_iload (q := 158) rfl rfl rfl ?_
  refine w_iload_n (q := 159) rfl rfl rfl ?_
  refine w_sipush (q := 162) rfl rfl rfl ?_
  refine w_iload_n (q := 163) rfl rfl rfl ?_
  refine w_imul (q := 164) rfl rfl ?_
  refine w_bipush (q := 166) rfl rfl rfl ?_
  refine w_iadd (q := 167) rfl rfl ?_
  refine w_bipush (q := 169) rfl rfl rfl ?_
  refine w_call (q := 172) rfl rfl rfl rfl rfl ?_
  exact k
theorem b283_50 {xs : Nat → Int32} {xl : Nat} {I J : w_I} {b : Bool} {Q : Option Value → w_I → w_I → Bool → Prop} {l1 l2 l3 l4 s0 : Int} {u5 : Option Value} (k : w_C xs xl 215 [.ref 104, w_i l4, w_i 0] I J b (fun v Ic Jc bc => w_T xs xl 283 58 [some (.ref 104), some (w_i l1), some (w_i l2), some (w_i l3), some (w_i l4), u5] [] (w_pv v [.ref 104, w_i s0]) Ic Jc bc Q)) : w_T xs xl 283 50 [some (.ref 104), some (w_i l1), some (w_i l2), some (w_i l3), some (w_i l4), u5] [] [w_i s0] I J b Q := by
  refine w_aload_n (q := 51) rfl rfl rfl ?_
  refine w_aload_n (q := 52) rfl rfl rfl ?_
  refine w_iload (q := 54) rfl rfl rfl ?_
  refine w_iconst (q := 55) rfl rfl ?_
  refine w_callv (q := 58) rfl rfl rfl rfl rfl rfl ?_
  exact k
theorem b283_240 {xs : Nat → Int32} {xl : Nat} {I J : w_I} {b : Bool} {Q : Option Value → w_I → w_I → Bool → Prop} {u1 u2 u3 u4 u5 : Option Value} {s0 : Int} (k : Q (some (w_i s0)) I J b) : w_T xs xl 283 240 [some (.ref 104), u1, u2, u3, u4, u5] [] [w_i s0] I J b Q := by
  refine w_goto (t := 244) rfl rfl ?_
  exact w_iret rfl rfl k
theorem b283_172 {xs : Nat → Int32} {xl : Nat} {I J : w_I} {b : Bool} {Q : Option Value → w_I → w_I → Bool → Prop} {u1 u2 u4 u5 : Option Value} {l3 s1 s2 s3 : Int} (k : ((-2147483648 ≤ s3 ∧ s3 < 2147483648) ∧ ((¬ s3 = 0 → w_C xs xl 220 [.ref 104, w_i s1, w_i s2, w_i 0] I J b (fun v Ic Jc bc => w_T xs xl 283 183 [some (.ref 104), u1, u2, some (w_i l3), u4, u5] [] (w_pv v []) Ic Jc bc Q)) ∧ (s3 = 0 → w_C xs xl 220 [.ref 104, w_i s1, w_i s2, w_i 1] I J b (fun v Ic Jc bc => w_T xs xl 283 183 [some (.ref 104), u1, u2, some (w_i l3), u4, u5] [] (w_pv v []) Ic Jc bc Q))))) : w_T xs xl 283 172 [some (.ref 104), u1, u2, some (w_i l3), u4, u5] [] [w_i s3, w_i s2, w_i s1, .ref 104] I J b Q := by
  obtain ⟨h1, k⟩ := k
  refine w_zne (t := 179) (q := 175) rfl rfl rfl h1 (fun c2 => ?_) (fun c2 => ?_)
  · replace k := k.1 c2
    refine w_iconst (q := 180) rfl rfl ?_
    refine w_callv (q := 183) rfl rfl rfl rfl rfl rfl ?_
    exact k
  · replace k := k.2 c2
    refine w_iconst (q := 176) rfl rfl ?_
    refine w_goto (t := 180) rfl rfl ?_
    refine w_callv (q := 183) rfl rfl rfl rfl rfl rfl ?_
    exact k
theorem b283_58 {xs : Nat → Int32} {xl : Nat} {I J : w_I} {b : Bool} {Q : Option Value → w_I → w_I → Bool → Prop} {l1 l2 l3 l4 s0 s2 : Int} {u5 : Option Value} (k : ((0 ≤ 100 + 6 * l4 + 3 ∧ 100 + 6 * l4 + 3 < 2800) ∧ w_C xs xl 272 [.ref 104, w_i s2, w_i (I 110 (100 + 6 * l4 + 3))] I J b (fun v Ic Jc bc => w_T xs xl 283 76 [some (.ref 104), some (w_i l1), some (w_i l2), some (w_i l3), some (w_i l4), u5] [] (w_pv v [w_i s0]) Ic Jc bc Q))) : w_T xs xl 283 58 [some (.ref 104), some (w_i l1), some (w_i l2), some (w_i l3), some (w_i l4), u5] [] [w_i s2, .ref 104, w_i s0] I J b Q := by
  refine w_aload_n (q := 59) rfl rfl rfl ?_
  refine w_gfr (q := 62) rfl rfl rfl rfl (j := 110) rfl ?_
  refine w_bipush (q := 64) rfl rfl rfl ?_
  refine w_bipush (q := 66) rfl rfl rfl ?_
  refine w_iload (q := 68) rfl rfl rfl ?_
  refine w_imul (q := 69) rfl rfl ?_
  refine w_iadd (q := 70) rfl rfl ?_
  refine w_iconst (q := 71) rfl rfl ?_
  refine w_iadd (q := 72) rfl rfl ?_
  obtain ⟨h1, k⟩ := k
  refine w_iald (q := 73) (n := 2800) (v := I 110 (100 + 6 * l4 + 3)) rfl rfl rfl rfl rfl rfl h1 ?_
  refine w_callv (q := 76) rfl rfl rfl rfl rfl rfl ?_
  exact k
theorem b283_183 {xs : Nat → Int32} {xl : Nat} {I J : w_I} {b : Bool} {Q : Option Value → w_I → w_I → Bool → Prop} {u1 u2 u4 u5 : Option Value} {l3 s0 : Int} (k : ((-2147483648 ≤ l3 ∧ l3 < 2147483648) ∧ ((¬ l3 = 0 → ((¬ l3 = 2 → w_C xs xl 281 [.ref 104, w_i s0] I J b (fun v Ic Jc bc => w_T xs xl 283 223 [some (.ref 104), u1, u2, some (w_i l3), some (w_i s0), u5] [] (w_pv v []) Ic Jc bc Q)) ∧ (l3 = 2 → w_C xs xl 282 [.ref 104, w_i s0] I J b (fun v Ic Jc bc => w_T xs xl 283 216 [some (.ref 104), u1, u2, some (w_i l3), some (w_i s0), u5] [] (w_pv v []) Ic Jc bc Q)))) ∧ (l3 = 0 → w_C xs xl 280 [.ref 104, w_i s0] I J b (fun v Ic Jc bc => w_T xs xl 283 195 [some (.ref 104), u1, u2, some (w_i l3), some (w_i s0), u5] [] (w_pv v []) Ic Jc bc Q))))) : w_T xs xl 283 183 [some (.ref 104), u1, u2, some (w_i l3), u4, u5] [] [w_i s0] I J b Q := by
  refine w_istore (q := 185) (L' := [some (.ref 104), u1, u2, some (w_i l3), some (w_i s0), u5]) (M' := []) rfl rfl rfl rfl rfl ?_
  refine w_iload_n (q := 186) rfl rfl rfl ?_
  obtain ⟨h1, k⟩ := k
  refine w_zne (t := 205) (q := 189) rfl rfl rfl h1 (fun c2 => ?_) (fun c2 => ?_)
  · replace k := k.1 c2
    refine w_iload_n (q := 206) rfl rfl rfl ?_
    refine w_iconst (q := 207) rfl rfl ?_
    refine w_cne (t := 217) (q := 210) rfl rfl rfl h1 (by decide) (fun c3 => ?_) (fun c3 => ?_)
    · replace k := k.1 c3
      refine w_aload_n (q := 218) rfl rfl rfl ?_
      refine w_iload (q := 220) rfl rfl rfl ?_
      refine w_callv (q := 223) rfl rfl rfl rfl rfl rfl ?_
      exact k
    · replace k := k.2 c3
      refine w_aload_n (q := 211) rfl rfl rfl ?_
      refine w_iload (q := 213) rfl rfl rfl ?_
      refine w_callv (q := 216) rfl rfl rfl rfl rfl rfl ?_
      exact k
  · replace k := k.2 c2
    refine w_aload_n (q := 190) rfl rfl rfl ?_
    refine w_iload (q := 192) rfl rfl rfl ?_
    refine w_callv (q := 195) rfl rfl rfl rfl rfl rfl ?_
    exact k
theorem b283_76 {xs : Nat → Int32} {xl : Nat} {I J : w_I} {b : Bool} {Q : Option Value → w_I → w_I → Bool → Prop} {l1 l2 l3 l4 s0 s1 : Int} {u5 : Option Value} (k : ((-2147483648 ≤ s0 ∧ s0 < 2147483648) ∧ (-2147483648 ≤ s1 ∧ s1 < 2147483648) ∧ ((s1 ≤ s0 → w_T xs xl 283 15 [some (.ref 104), some (w_i l1), some (w_i l2), some (w_i l3), some (w_i (l4 + 1)), u5] [] [] I J b Q) ∧ (¬ s1 ≤ s0 → w_C xs xl 224 [.ref 104, w_i l4] I J b (fun v Ic Jc bc => w_T xs xl 283 85 [some (.ref 104), some (w_i l1), some (w_i l2), some (w_i l3), some (w_i l4), u5] [] (w_pv v []) Ic Jc bc Q))))) : w_T xs xl 283 76 [some (.ref 104), some (w_i l1), some (w_i l2), some (w_i l3), some (w_i l4), u5] [] [w_i s1, w_i s0] I J b Q := by
  obtain ⟨h1, h2, k⟩ := k
  refine w_cge (t := 85) (q := 79) rfl rfl rfl h1 h2 (fun c3 => ?_) (fun c3 => ?_)
  · replace k := k.1 c3
    refine w_iinc (q := 88) (L' := [some (.ref 104), some (w_i l1), some (w_i l2), some (w_i l3), some (w_i (l4 + 1)), u5]) (M' := []) rfl rfl rfl rfl rfl rfl ?_
    refine w_goto (t := 15) rfl rfl ?_
    exact k
  · replace k := k.2 c3
    refine w_aload_n (q := 80) rfl rfl rfl ?_
    refine w_iload (q := 82) rfl rfl rfl ?_
    refine w_callv (q := 85) rfl rfl rfl rfl rfl rfl ?_
    exact k
theorem b283_85 {xs : Nat → Int32} {xl : Nat} {I J : w_I} {b : Bool} {Q : Option Value → w_I → w_I → Bool → Prop} {l1 l2 l3 l4 : Int} {u5 : Option Value} (k : w_T xs xl 283 15 [some (.ref 104), some (w_i l1), some (w_i l2), some (w_i l3), some (w_i (l4 + 1)), u5] [] [] I J b Q) : w_T xs xl 283 85 [some (.ref 104), some (w_i l1), some (w_i l2), some (w_i l3), some (w_i l4), u5] [] [] I J b Q := by
  refine w_iinc (q := 88) (L' := [some (.ref 104), some (w_i l1), some (w_i l2), some (w_i l3), some (w_i (l4 + 1)), u5]) (M' := []) rfl rfl rfl rfl rfl rfl ?_
  refine w_goto (t := 15) rfl rfl ?_
  exact k
theorem e284 {xs : Nat → Int32} {xl : Nat} {I J : w_I} {b : Bool} {Q : Option Value → w_I → w_I → Bool → Prop} {a1 a2 a3 : Int} (t : w_T xs xl 284 0 [some (.ref 104), some (w_i a1), some (w_i a2), some (w_i a3), none, none] [] [] I J b Q) : w_C xs xl 284 [.ref 104, w_i a1, w_i a2, w_i a3] I J b Q := w_en rfl t
theorem b284_0 {xs : Nat → Int32} {xl : Nat} {I J : w_I} {b : Bool} {Q : Option Value → w_I → w_I → Bool → Prop} {a1 a2 a3 : Int} (k : w_C xs xl 209 [w_i a2, w_i 1, w_i 40] I J b (fun v Ic Jc bc => w_T xs xl 284 7 [some (.ref 104), some (w_i a1), some (w_i a2), some (w_i a3), none, none] [] (w_pv v []) Ic Jc bc Q)) : w_T xs xl 284 0 [some (.ref 104), some (w_i a1), some (w_i a2), some (w_i a3), none, none] [] [] I J b Q := by
  refine w_iload_n (q := 1) rfl rfl rfl ?_
  refine w_iconst (q := 2) rfl rfl ?_
  refine w_bipush (q := 4) rfl rfl rfl ?_
  refine w_call (q := 7) rfl rfl rfl rfl rfl ?_
  exact k
theorem b284_7 {xs : Nat → Int32} {xl : Nat} {I J : w_I} {b : Bool} {Q : Option Value → w_I → w_I → Bool → Prop} {l1 l2 l3 s0 : Int} {u4 u5 : Option Value} (k : ((-2147483648 ≤ s0 ∧ s0 < 2147483648) ∧ ((s0 = 0 → Q (some (w_i (-1))) I J b) ∧ (¬ s0 = 0 → w_C xs xl 209 [w_i l3, w_i 0, w_i 3] I J b (fun v Ic Jc bc => w_T xs xl 284 16 [some (.ref 104), some (w_i l1), some (w_i l2), some (w_i l3), u4, u5] [] (w_pv v []) Ic Jc bc Q))))) : w_T xs xl 284 7 [some (.ref 104), some (w_i l1), some (w_i l2), some (w_i l3), u4, u5] [] [w_i s0] I J b Q := by
  obtain ⟨h1, k⟩ := k
  refine w_zeq (t := 37) (q := 10) rfl rfl rfl h1 (fun c2 => ?_) (fun c2 => ?_)
  · replace k := k.1 c2
    refine w_iconst (q := 38) rfl rfl ?_
    exact w_iret rfl rfl k
  · replace k := k.2 c2
    refine w_iload_n (q := 11) rfl rfl rfl ?_
    refine w_iconst (q := 12) rfl rfl ?_
    refine w_iconst (q := 13) rfl rfl ?_
    refine w_call (q := 16) rfl rfl rfl rfl rfl ?_
    exact k
theorem b284_16 {xs : Nat → Int32} {xl : Nat} {I J : w_I} {b : Bool} {Q : Option Value → w_I → w_I → Bool → Prop} {l1 l2 l3 s0 : Int} {u4 u5 : Option Value} (k : ((-2147483648 ≤ s0 ∧ s0 < 2147483648) ∧ ((s0 = 0 → Q (some (w_i (-1))) I J b) ∧ (¬ s0 = 0 → ((-2147483648 ≤ I 110 9 + 12 * l2 ∧ I 110 9 + 12 * l2 < 2147483648) ∧ ((I 110 9 + 12 * l2 ≤ 1200 → w_C xs xl 236 [.ref 104] I J b (fun v Ic Jc bc => w_T xs xl 284 43 [some (.ref 104), some (w_i l1), some (w_i l2), some (w_i l3), u4, u5] [] (w_pv v []) Ic Jc bc Q)) ∧ (¬ I 110 9 + 12 * l2 ≤ 1200 → Q (some (w_i (-1))) I J b))))))) : w_T xs xl 284 16 [some (.ref 104), some (w_i l1), some (w_i l2), some (w_i l3), u4, u5] [] [w_i s0] I J b Q := by
  obtain ⟨h1, k⟩ := k
  refine w_zeq (t := 37) (q := 19) rfl rfl rfl h1 (fun c2 => ?_) (fun c2 => ?_)
  · replace k := k.1 c2
    refine w_iconst (q := 38) rfl rfl ?_
    exact w_iret rfl rfl k
  · replace k := k.2 c2
    refine w_aload_n (q := 20) rfl rfl rfl ?_
    refine w_gfr (q := 23) rfl rfl rfl rfl (j := 110) rfl ?_
    refine w_bipush (q := 25) rfl rfl rfl ?_
    refine w_iald (q := 26) (n := 2800) (v := I 110 9) rfl rfl rfl rfl rfl rfl (by decide) ?_
    refine w_bipush (q := 28) rfl rfl rfl ?_
    refine w_iload_n (q := 29) rfl rfl rfl ?_
    refine w_imul (q := 30) rfl rfl ?_
    refine w_iadd (q := 31) rfl rfl ?_
    refine w_sipush (q := 34) rfl rfl rfl ?_
    obtain ⟨h3, k⟩ := k
    refine w_cle (t := 39) (q := 37) rfl rfl rfl h3 (by decide) (fun c4 => ?_) (fun c4 => ?_)
    · replace k := k.1 c4
      refine w_aload_n (q := 40) rfl rfl rfl ?_
      refine w_callv (q := 43) rfl rfl rfl rfl rfl rfl ?_
      exact k
    · replace k := k.2 c4
      refine w_iconst (q := 38) rfl rfl ?_
      exact w_iret rfl rfl k
theorem b284_43 {xs : Nat → Int32} {xl : Nat} {I J : w_I} {b : Bool} {Q : Option Value → w_I → w_I → Bool → Prop} {l1 l2 l3 s0 : Int} {u4 u5 : Option Value} (k : ((-2147483648 ≤ s0 ∧ s0 < 2147483648) ∧ ((s0 = 0 → w_T xs xl 284 55 [some (.ref 104), some (w_i l1), some (w_i l2), some (w_i l3), some (w_i 0), some (w_i 0)] [] [] I J b Q) ∧ (¬ s0 = 0 → Q (some (w_i (-2))) I J b)))) : w_T xs xl 284 43 [some (.ref 104), some (w_i l1), some (w_i l2), some (w_i l3), u4, u5] [] [w_i s0] I J b Q := by
  obtain ⟨h1, k⟩ := k
  refine w_zeq (t := 49) (q := 46) rfl rfl rfl h1 (fun c2 => ?_) (fun c2 => ?_)
  · replace k := k.1 c2
    refine w_iconst (q := 50) rfl rfl ?_
    refine w_istore (q := 52) (L' := [some (.ref 104), some (w_i l1), some (w_i l2), some (w_i l3), some (w_i 0), u5]) (M' := []) rfl rfl rfl rfl rfl ?_
    refine w_iconst (q := 53) rfl rfl ?_
    refine w_istore (q := 55) (L' := [some (.ref 104), some (w_i l1), some (w_i l2), some (w_i l3), some (w_i 0), some (w_i 0)]) (M' := []) rfl rfl rfl rfl rfl ?_
    exact k
  · replace k := k.2 c2
    refine w_bipush (q := 48) rfl rfl rfl ?_
    exact w_iret rfl rfl k
theorem b284_55 {xs : Nat → Int32} {xl : Nat} {I J : w_I} {b : Bool} {Q : Option Value → w_I → w_I → Bool → Prop} {l1 l2 l3 l4 l5 : Int} (k : ((-2147483648 ≤ l5 ∧ l5 < 2147483648) ∧ (-2147483648 ≤ l2 ∧ l2 < 2147483648) ∧ ((l2 ≤ l5 → Q (some (w_i l4)) I J b) ∧ (¬ l2 ≤ l5 → w_C xs xl 283 [.ref 104, w_i l1, w_i l5, w_i l3] I J b (fun v Ic Jc bc => w_T xs xl 284 71 [some (.ref 104), some (w_i l1), some (w_i l2), some (w_i l3), some (w_i l4), some (w_i l5)] [] (w_pv v [w_i l4]) Ic Jc bc Q))))) : w_T xs xl 284 55 [some (.ref 104), some (w_i l1), some (w_i l2), some (w_i l3), some (w_i l4), some (w_i l5)] [] [] I J b Q := by
  refine w_iload (q := 57) rfl rfl rfl ?_
  refine w_iload_n (q := 58) rfl rfl rfl ?_
  obtain ⟨h1, h2, k⟩ := k
  refine w_cge (t := 80) (q := 61) rfl rfl rfl h1 h2 (fun c3 => ?_) (fun c3 => ?_)
  · replace k := k.1 c3
    refine w_iload (q := 82) rfl rfl rfl ?_
    exact w_iret rfl rfl k
  · replace k := k.2 c3
    refine w_iload (q := 63) rfl rfl rfl ?_
    refine w_aload_n (q := 64) rfl rfl rfl ?_
    refine w_iload_n (q := 65) rfl rfl rfl ?_
    refine w_iload (q := 67) rfl rfl rfl ?_
    refine w_iload_n (q := 68) rfl rfl rfl ?_
    refine w_callv (q := 71) rfl rfl rfl rfl rfl rfl ?_
    exact k
theorem b284_71 {xs : Nat → Int32} {xl : Nat} {I J : w_I} {b : Bool} {Q : Option Value → w_I → w_I → Bool → Prop} {l1 l2 l3 l5 s0 s1 : Int} {u4 : Option Value} (k : w_T xs xl 284 55 [some (.ref 104), some (w_i l1), some (w_i l2), some (w_i l3), some (w_i (s0 + s1)), some (w_i (l5 + 1))] [] [] I J b Q) : w_T xs xl 284 71 [some (.ref 104), some (w_i l1), some (w_i l2), some (w_i l3), u4, some (w_i l5)] [] [w_i s1, w_i s0] I J b Q := by
  refine w_iadd (q := 72) rfl rfl ?_
  refine w_istore (q := 74) (L' := [some (.ref 104), some (w_i l1), some (w_i l2), some (w_i l3), some (w_i (s0 + s1)), some (w_i l5)]) (M' := []) rfl rfl rfl rfl rfl ?_
  refine w_iinc (q := 77) (L' := [some (.ref 104), some (w_i l1), some (w_i l2), some (w_i l3), some (w_i (s0 + s1)), some (w_i (l5 + 1))]) (M' := []) rfl rfl rfl rfl rfl rfl ?_
  refine w_goto (t := 55) rfl rfl ?_
  exact k
theorem e285 {xs : Nat → Int32} {xl : Nat} {I J : w_I} {b : Bool} {Q : Option Value → w_I → w_I → Bool → Prop} {a1 : Int} (t : w_T xs xl 285 0 [some (.ref 104), some (w_i a1), none, none] [] [] I J b Q) : w_C xs xl 285 [.ref 104, w_i a1] I J b Q := w_en rfl t
theorem b285_0 {xs : Nat → Int32} {xl : Nat} {I J : w_I} {b : Bool} {Q : Option Value → w_I → w_I → Bool → Prop} {a1 : Int} (k : ((-2147483648 ≤ a1 ∧ a1 < 2147483648) ∧ ((a1 = 0 → Q (some (w_i (I 110 0))) I J b) ∧ (¬ a1 = 0 → ((a1 = 1 → w_T xs xl 285 81 [some (.ref 104), some (w_i a1), some (w_i 0), some (w_i 0)] [] [] I J b Q) ∧ (¬ a1 = 1 → ((a1 = 2 → w_T xs xl 285 118 [some (.ref 104), some (w_i a1), some (w_i 0), some (w_i 0)] [] [] I J b Q) ∧ (¬ a1 = 2 → ((a1 = 3 → w_T xs xl 285 155 [some (.ref 104), some (w_i a1), some (w_i 0), some (w_i 0)] [] [] I J b Q) ∧ (¬ a1 = 3 → ((a1 = 4 → Q (some (w_i (I 110 9))) I J b) ∧ (¬ a1 = 4 → ((a1 = 5 → Q (some (w_i (I 110 10))) I J b) ∧ (¬ a1 = 5 → ((a1 = 6 → Q (some (w_i (I 104 0))) I J b) ∧ (¬ a1 = 6 → ((a1 = 7 → ((-2147483648 ≤ I 121 2 ∧ I 121 2 < 2147483648) ∧ ((I 121 2 = 0 → ((-2147483648 ≤ I 121 3 ∧ I 121 3 < 2147483648) ∧ ((I 121 3 = 0 → Q (some (w_i (0 + 0))) I J b) ∧ (¬ I 121 3 = 0 → Q (some (w_i (0 + 1))) I J b)))) ∧ (¬ I 121 2 = 0 → ((-2147483648 ≤ I 121 3 ∧ I 121 3 < 2147483648) ∧ ((I 121 3 = 0 → Q (some (w_i (1 + 0))) I J b) ∧ (¬ I 121 3 = 0 → Q (some (w_i (1 + 1))) I J b))))))) ∧ (¬ a1 = 7 → ((a1 = 8 → Q (some (w_i (I 110 1))) I J b) ∧ (¬ a1 = 8 → ((a1 = 9 → Q (some (w_i (I 110 2))) I J b) ∧ (¬ a1 = 9 → ((a1 = 10 → Q (some (w_i (I 110 4))) I J b) ∧ (¬ a1 = 10 → ((a1 = 11 → Q (some (w_i (I 110 3))) I J b) ∧ (¬ a1 = 11 → ((a1 = 12 → Q (some (w_i (I 110 7))) I J b) ∧ (¬ a1 = 12 → ((a1 = 13 → Q (some (w_i (I 110 8))) I J b) ∧ (¬ a1 = 13 → Q (some (w_i (-1))) I J b)))))))))))))))))))))))))))))) : w_T xs xl 285 0 [some (.ref 104), some (w_i a1), none, none] [] [] I J b Q := by
  refine w_iconst (q := 1) rfl rfl ?_
  refine w_istore_n (q := 2) (L' := [some (.ref 104), some (w_i a1), some (w_i 0), none]) (M' := []) rfl rfl rfl rfl rfl ?_
  refine w_iload_n (q := 3) rfl rfl rfl ?_
  obtain ⟨h1, k⟩ := k
  rcases Decidable.em (a1 = 0) with c2 | c2
  · replace k := k.1 c2
    refine w_tsw (t := 72) rfl h1 (by rw [c2]; rfl) ?_
    refine w_aload_n (q := 73) rfl rfl rfl ?_
    refine w_gfr (q := 76) rfl rfl rfl rfl (j := 110) rfl ?_
    refine w_iconst (q := 77) rfl rfl ?_
    refine w_iald (q := 78) (n := 2800) (v := I 110 0) rfl rfl rfl rfl rfl rfl (by decide) ?_
    exact w_iret rfl rfl k
  · replace k := k.2 c2
    rcases Decidable.em (a1 = 1) with c3 | c3
    · replace k := k.1 c3
      refine w_tsw (t := 79) rfl h1 (by rw [c3]; rfl) ?_
      refine w_iconst (q := 80) rfl rfl ?_
      refine w_istore_n (q := 81) (L' := [some (.ref 104), some (w_i a1), some (w_i 0), some (w_i 0)]) (M' := []) rfl rfl rfl rfl rfl ?_
      exact k
    · replace k := k.2 c3
      rcases Decidable.em (a1 = 2) with c4 | c4
      · replace k := k.1 c4
        refine w_tsw (t := 116) rfl h1 (by rw [c4]; rfl) ?_
        refine w_iconst (q := 117) rfl rfl ?_
        refine w_istore_n (q := 118) (L' := [some (.ref 104), some (w_i a1), some (w_i 0), some (w_i 0)]) (M' := []) rfl rfl rfl rfl rfl ?_
        exact k
      · replace k := k.2 c4
        rcases Decidable.em (a1 = 3) with c5 | c5
        · replace k := k.1 c5
          refine w_tsw (t := 153) rfl h1 (by rw [c5]; rfl) ?_
          refine w_iconst (q := 154) rfl rfl ?_
          refine w_istore_n (q := 155) (L' := [some (.ref 104), some (w_i a1), some (w_i 0), some (w_i 0)]) (M' := []) rfl rfl rfl rfl rfl ?_
          exact k
        · replace k := k.2 c5
          rcases Decidable.em (a1 = 4) with c6 | c6
          · replace k := k.1 c6
            refine w_tsw (t := 190) rfl h1 (by rw [c6]; rfl) ?_
            refine w_aload_n (q := 191) rfl rfl rfl ?_
            refine w_gfr (q := 194) rfl rfl rfl rfl (j := 110) rfl ?_
            refine w_bipush (q := 196) rfl rfl rfl ?_
            refine w_iald (q := 197) (n := 2800) (v := I 110 9) rfl rfl rfl rfl rfl rfl (by decide) ?_
            exact w_iret rfl rfl k
          · replace k := k.2 c6
            rcases Decidable.em (a1 = 5) with c7 | c7
            · replace k := k.1 c7
              refine w_tsw (t := 198) rfl h1 (by rw [c7]; rfl) ?_
              refine w_aload_n (q := 199) rfl rfl rfl ?_
              refine w_gfr (q := 202) rfl rfl rfl rfl (j := 110) rfl ?_
              refine w_bipush (q := 204) rfl rfl rfl ?_
              refine w_iald (q := 205) (n := 2800) (v := I 110 10) rfl rfl rfl rfl rfl rfl (by decide) ?_
              exact w_iret rfl rfl k
            · replace k := k.2 c7
              rcases Decidable.em (a1 = 6) with c8 | c8
              · replace k := k.1 c8
                refine w_tsw (t := 206) rfl h1 (by rw [c8]; rfl) ?_
                refine w_aload_n (q := 207) rfl rfl rfl ?_
                refine w_gfi (q := 210) (k' := 0) (v := I 104 0) rfl rfl rfl rfl rfl rfl rfl ?_
                exact w_iret rfl rfl k
              · replace k := k.2 c8
                rcases Decidable.em (a1 = 7) with c9 | c9
                · replace k := k.1 c9
                  refine w_tsw (t := 211) rfl h1 (by rw [c9]; rfl) ?_
                  refine w_aload_n (q := 212) rfl rfl rfl ?_
                  refine w_gfr (q := 215) rfl rfl rfl rfl (j := 121) rfl ?_
                  refine w_iconst (q := 216) rfl rfl ?_
                  refine w_bald2 (q := 217) (n := 4) (v := I 121 2) rfl rfl rfl rfl rfl rfl (by decide) ?_
                  obtain ⟨h10, k⟩ := k
                  refine w_zeq (t := 224) (q := 220) rfl rfl rfl h10 (fun c11 => ?_) (fun c11 => ?_)
                  · replace k := k.1 c11
                    refine w_iconst (q := 225) rfl rfl ?_
                    refine w_aload_n (q := 226) rfl rfl rfl ?_
                    refine w_gfr (q := 229) rfl rfl rfl rfl (j := 121) rfl ?_
                    refine w_iconst (q := 230) rfl rfl ?_
                    refine w_bald2 (q := 231) (n := 4) (v := I 121 3) rfl rfl rfl rfl rfl rfl (by decide) ?_
                    obtain ⟨h12, k⟩ := k
                    refine w_zeq (t := 238) (q := 234) rfl rfl rfl h12 (fun c13 => ?_) (fun c13 => ?_)
                    · replace k := k.1 c13
                      refine w_iconst (q := 239) rfl rfl ?_
                      refine w_iadd (q := 240) rfl rfl ?_
                      exact w_iret rfl rfl k
                    · replace k := k.2 c13
                      refine w_iconst (q := 235) rfl rfl ?_
                      refine w_goto (t := 239) rfl rfl ?_
                      refine w_iadd (q := 240) rfl rfl ?_
                      exact w_iret rfl rfl k
                  · replace k := k.2 c11
                    refine w_iconst (q := 221) rfl rfl ?_
                    refine w_goto (t := 225) rfl rfl ?_
                    refine w_aload_n (q := 226) rfl rfl rfl ?_
                    refine w_gfr (q := 229) rfl rfl rfl rfl (j := 121) rfl ?_
                    refine w_iconst (q := 230) rfl rfl ?_
                    refine w_bald2 (q := 231) (n := 4) (v := I 121 3) rfl rfl rfl rfl rfl rfl (by decide) ?_
                    obtain ⟨h14, k⟩ := k
                    refine w_zeq (t := 238) (q := 234) rfl rfl rfl h14 (fun c15 => ?_) (fun c15 => ?_)
                    · replace k := k.1 c15
                      refine w_iconst (q := 239) rfl rfl ?_
                      refine w_iadd (q := 240) rfl rfl ?_
                      exact w_iret rfl rfl k
                    · replace k := k.2 c15
                      refine w_iconst (q := 235) rfl rfl ?_
                      refine w_goto (t := 239) rfl rfl ?_
                      refine w_iadd (q := 240) rfl rfl ?_
                      exact w_iret rfl rfl k
                · replace k := k.2 c9
                  rcases Decidable.em (a1 = 8) with c16 | c16
                  · replace k := k.1 c16
                    refine w_tsw (t := 241) rfl h1 (by rw [c16]; rfl) ?_
                    refine w_aload_n (q := 242) rfl rfl rfl ?_
                    refine w_gfr (q := 245) rfl rfl rfl rfl (j := 110) rfl ?_
                    refine w_iconst (q := 246) rfl rfl ?_
                    refine w_iald (q := 247) (n := 2800) (v := I 110 1) rfl rfl rfl rfl rfl rfl (by decide) ?_
                    exact w_iret rfl rfl k
                  · replace k := k.2 c16
                    rcases Decidable.em (a1 = 9) with c17 | c17
                    · replace k := k.1 c17
                      refine w_tsw (t := 248) rfl h1 (by rw [c17]; rfl) ?_
                      refine w_aload_n (q := 249) rfl rfl rfl ?_
                      refine w_gfr (q := 252) rfl rfl rfl rfl (j := 110) rfl ?_
                      refine w_iconst (q := 253) rfl rfl ?_
                      refine w_iald (q := 254) (n := 2800) (v := I 110 2) rfl rfl rfl rfl rfl rfl (by decide) ?_
                      exact w_iret rfl rfl k
                    · replace k := k.2 c17
                      rcases Decidable.em (a1 = 10) with c18 | c18
                      · replace k := k.1 c18
                        refine w_tsw (t := 255) rfl h1 (by rw [c18]; rfl) ?_
                        refine w_aload_n (q := 256) rfl rfl rfl ?_
                        refine w_gfr (q := 259) rfl rfl rfl rfl (j := 110) rfl ?_
                        refine w_iconst (q := 260) rfl rfl ?_
                        refine w_iald (q := 261) (n := 2800) (v := I 110 4) rfl rfl rfl rfl rfl rfl (by decide) ?_
                        exact w_iret rfl rfl k
                      · replace k := k.2 c18
                        rcases Decidable.em (a1 = 11) with c19 | c19
                        · replace k := k.1 c19
                          refine w_tsw (t := 262) rfl h1 (by rw [c19]; rfl) ?_
                          refine w_aload_n (q := 263) rfl rfl rfl ?_
                          refine w_gfr (q := 266) rfl rfl rfl rfl (j := 110) rfl ?_
                          refine w_iconst (q := 267) rfl rfl ?_
                          refine w_iald (q := 268) (n := 2800) (v := I 110 3) rfl rfl rfl rfl rfl rfl (by decide) ?_
                          exact w_iret rfl rfl k
                        · replace k := k.2 c19
                          rcases Decidable.em (a1 = 12) with c20 | c20
                          · replace k := k.1 c20
                            refine w_tsw (t := 269) rfl h1 (by rw [c20]; rfl) ?_
                            refine w_aload_n (q := 270) rfl rfl rfl ?_
                            refine w_gfr (q := 273) rfl rfl rfl rfl (j := 110) rfl ?_
                            refine w_bipush (q := 275) rfl rfl rfl ?_
                            refine w_iald (q := 276) (n := 2800) (v := I 110 7) rfl rfl rfl rfl rfl rfl (by decide) ?_
                            exact w_iret rfl rfl k
                          · replace k := k.2 c20
                            rcases Decidable.em (a1 = 13) with c21 | c21
                            · replace k := k.1 c21
                              refine w_tsw (t := 277) rfl h1 (by rw [c21]; rfl) ?_
                              refine w_aload_n (q := 278) rfl rfl rfl ?_
                              refine w_gfr (q := 281) rfl rfl rfl rfl (j := 110) rfl ?_
                              refine w_bipush (q := 283) rfl rfl rfl ?_
                              refine w_iald (q := 284) (n := 2800) (v := I 110 8) rfl rfl rfl rfl rfl rfl (by decide) ?_
                              exact w_iret rfl rfl k
                            · replace k := k.2 c21
                              have hd : a1 < 0 ∨ 13 < a1 := by omega
                              refine w_tsw (t := 285) rfl h1 (by rw [if_pos hd]; rfl) ?_
                              refine w_iconst (q := 286) rfl rfl ?_
                              exact w_iret rfl rfl k
theorem b285_81 {xs : Nat → Int32} {xl : Nat} {I J : w_I} {b : Bool} {Q : Option Value → w_I → w_I → Bool → Prop} {u1 : Option Value} {l2 l3 : Int} (k : ((-2147483648 ≤ l3 ∧ l3 < 2147483648) ∧ (-2147483648 ≤ I 110 7 ∧ I 110 7 < 2147483648) ∧ ((I 110 7 ≤ l3 → Q (some (w_i l2)) I J b) ∧ (¬ I 110 7 ≤ l3 → w_C xs xl 210 [.ref 104, w_i l3] I J b (fun v Ic Jc bc => w_T xs xl 285 98 [some (.ref 104), u1, some (w_i l2), some (w_i l3)] [] (w_pv v [w_i l2]) Ic Jc bc Q))))) : w_T xs xl 285 81 [some (.ref 104), u1, some (w_i l2), some (w_i l3)] [] [] I J b Q := by
  refine w_iload_n (q := 82) rfl rfl rfl ?_
  refine w_aload_n (q := 83) rfl rfl rfl ?_
  refine w_gfr (q := 86) rfl rfl rfl rfl (j := 110) rfl ?_
  refine w_bipush (q := 88) rfl rfl rfl ?_
  refine w_iald (q := 89) (n := 2800) (v := I 110 7) rfl rfl rfl rfl rfl rfl (by decide) ?_
  obtain ⟨h1, h2, k⟩ := k
  refine w_cge (t := 114) (q := 92) rfl rfl rfl h1 h2 (fun c3 => ?_) (fun c3 => ?_)
  · replace k := k.1 c3
    refine w_iload_n (q := 115) rfl rfl rfl ?_
    exact w_iret rfl rfl k
  · replace k := k.2 c3
    refine w_iload_n (q := 93) rfl rfl rfl ?_
    refine w_aload_n (q := 94) rfl rfl rfl ?_
    refine w_iload_n (q := 95) rfl rfl rfl ?_
    refine w_callv (q := 98) rfl rfl rfl rfl rfl rfl ?_
    exact k
theorem b285_118 {xs : Nat → Int32} {xl : Nat} {I J : w_I} {b : Bool} {Q : Option Value → w_I → w_I → Bool → Prop} {u1 : Option Value} {l2 l3 : Int} (k : ((-2147483648 ≤ l3 ∧ l3 < 2147483648) ∧ (-2147483648 ≤ I 110 8 ∧ I 110 8 < 2147483648) ∧ ((I 110 8 ≤ l3 → Q (some (w_i l2)) I J b) ∧ (¬ I 110 8 ≤ l3 → w_C xs xl 211 [.ref 104, w_i l3] I J b (fun v Ic Jc bc => w_T xs xl 285 135 [some (.ref 104), u1, some (w_i l2), some (w_i l3)] [] (w_pv v [w_i l2]) Ic Jc bc Q))))) : w_T xs xl 285 118 [some (.ref 104), u1, some (w_i l2), some (w_i l3)] [] [] I J b Q := by
  refine w_iload_n (q := 119) rfl rfl rfl ?_
  refine w_aload_n (q := 120) rfl rfl rfl ?_
  refine w_gfr (q := 123) rfl rfl rfl rfl (j := 110) rfl ?_
  refine w_bipush (q := 125) rfl rfl rfl ?_
  refine w_iald (q := 126) (n := 2800) (v := I 110 8) rfl rfl rfl rfl rfl rfl (by decide) ?_
  obtain ⟨h1, h2, k⟩ := k
  refine w_cge (t := 151) (q := 129) rfl rfl rfl h1 h2 (fun c3 => ?_) (fun c3 => ?_)
  · replace k := k.1 c3
    refine w_iload_n (q := 152) rfl rfl rfl ?_
    exact w_iret rfl rfl k
  · replace k := k.2 c3
    refine w_iload_n (q := 130) rfl rfl rfl ?_
    refine w_aload_n (q := 131) rfl rfl rfl ?_
    refine w_iload_n (q := 132) rfl rfl rfl ?_
    refine w_callv (q := 135) rfl rfl rfl rfl rfl rfl ?_
    exact k
theorem b285_155 {xs : Nat → Int32} {xl : Nat} {I J : w_I} {b : Bool} {Q : Option Value → w_I → w_I → Bool → Prop} {u1 : Option Value} {l2 l3 : Int} (k : ((-2147483648 ≤ l3 ∧ l3 < 2147483648) ∧ (-2147483648 ≤ I 110 8 ∧ I 110 8 < 2147483648) ∧ ((I 110 8 ≤ l3 → Q (some (w_i l2)) I J b) ∧ (¬ I 110 8 ≤ l3 → w_C xs xl 274 [.ref 104, w_i l3] I J b (fun v Ic Jc bc => w_T xs xl 285 172 [some (.ref 104), u1, some (w_i l2), some (w_i l3)] [] (w_pv v [w_i l2]) Ic Jc bc Q))))) : w_T xs xl 285 155 [some (.ref 104), u1, some (w_i l2), some (w_i l3)] [] [] I J b Q := by
  refine w_iload_n (q := 156) rfl rfl rfl ?_
  refine w_aload_n (q := 157) rfl rfl rfl ?_
  refine w_gfr (q := 160) rfl rfl rfl rfl (j := 110) rfl ?_
  refine w_bipush (q := 162) rfl rfl rfl ?_
  refine w_iald (q := 163) (n := 2800) (v := I 110 8) rfl rfl rfl rfl rfl rfl (by decide) ?_
  obtain ⟨h1, h2, k⟩ := k
  refine w_cge (t := 188) (q := 166) rfl rfl rfl h1 h2 (fun c3 => ?_) (fun c3 => ?_)
  · replace k := k.1 c3
    refine w_iload_n (q := 189) rfl rfl rfl ?_
    exact w_iret rfl rfl k
  · replace k := k.2 c3
    refine w_iload_n (q := 167) rfl rfl rfl ?_
    refine w_aload_n (q := 168) rfl rfl rfl ?_
    refine w_iload_n (q := 169) rfl rfl rfl ?_
    refine w_callv (q := 172) rfl rfl rfl rfl rfl rfl ?_
    exact k
theorem b285_98 {xs : Nat → Int32} {xl : Nat} {I J : w_I} {b : Bool} {Q : Option Value → w_I → w_I → Bool → Prop} {u1 u2 : Option Value} {l3 s0 s1 : Int} (k : ((-2147483648 ≤ s1 ∧ s1 < 2147483648) ∧ ((s1 = 0 → w_T xs xl 285 81 [some (.ref 104), u1, some (w_i (s0 + 0)), some (w_i (l3 + 1))] [] [] I J b Q) ∧ (¬ s1 = 0 → w_T xs xl 285 81 [some (.ref 104), u1, some (w_i (s0 + 1)), some (w_i (l3 + 1))] [] [] I J b Q)))) : w_T xs xl 285 98 [some (.ref 104), u1, u2, some (w_i l3)] [] [w_i s1, w_i s0] I J b Q := by
  obtain ⟨h1, k⟩ := k
  refine w_zeq (t := 105) (q := 101) rfl rfl rfl h1 (fun c2 => ?_) (fun c2 => ?_)
  · replace k := k.1 c2
    refine w_iconst (q := 106) rfl rfl ?_
    refine w_iadd (q := 107) rfl rfl ?_
    refine w_istore_n (q := 108) (L' := [some (.ref 104), u1, some (w_i (s0 + 0)), some (w_i l3)]) (M' := []) rfl rfl rfl rfl rfl ?_
    refine w_iinc (q := 111) (L' := [some (.ref 104), u1, some (w_i (s0 + 0)), some (w_i (l3 + 1))]) (M' := []) rfl rfl rfl rfl rfl rfl ?_
    refine w_goto (t := 81) rfl rfl ?_
    exact k
  · replace k := k.2 c2
    refine w_iconst (q := 102) rfl rfl ?_
    refine w_goto (t := 106) rfl rfl ?_
    refine w_iadd (q := 107) rfl rfl ?_
    refine w_istore_n (q := 108) (L' := [some (.ref 104), u1, some (w_i (s0 + 1)), some (w_i l3)]) (M' := []) rfl rfl rfl rfl rfl ?_
    refine w_iinc (q := 111) (L' := [some (.ref 104), u1, some (w_i (s0 + 1)), some (w_i (l3 + 1))]) (M' := []) rfl rfl rfl rfl rfl rfl ?_
    refine w_goto (t := 81) rfl rfl ?_
    exact k
theorem b285_135 {xs : Nat → Int32} {xl : Nat} {I J : w_I} {b : Bool} {Q : Option Value → w_I → w_I → Bool → Prop} {u1 u2 : Option Value} {l3 s0 s1 : Int} (k : ((-2147483648 ≤ s1 ∧ s1 < 2147483648) ∧ ((s1 = 0 → w_T xs xl 285 118 [some (.ref 104), u1, some (w_i (s0 + 0)), some (w_i (l3 + 1))] [] [] I J b Q) ∧ (¬ s1 = 0 → w_T xs xl 285 118 [some (.ref 104), u1, some (w_i (s0 + 1)), some (w_i (l3 + 1))] [] [] I J b Q)))) : w_T xs xl 285 135 [some (.ref 104), u1, u2, some (w_i l3)] [] [w_i s1, w_i s0] I J b Q := by
  obtain ⟨h1, k⟩ := k
  refine w_zeq (t := 142) (q := 138) rfl rfl rfl h1 (fun c2 => ?_) (fun c2 => ?_)
  · replace k := k.1 c2
    refine w_iconst (q := 143) rfl rfl ?_
    refine w_iadd (q := 144) rfl rfl ?_
    refine w_istore_n (q := 145) (L' := [some (.ref 104), u1, some (w_i (s0 + 0)), some (w_i l3)]) (M' := []) rfl rfl rfl rfl rfl ?_
    refine w_iinc (q := 148) (L' := [some (.ref 104), u1, some (w_i (s0 + 0)), some (w_i (l3 + 1))]) (M' := []) rfl rfl rfl rfl rfl rfl ?_
    refine w_goto (t := 118) rfl rfl ?_
    exact k
  · replace k := k.2 c2
    refine w_iconst (q := 139) rfl rfl ?_
    refine w_goto (t := 143) rfl rfl ?_
    refine w_iadd (q := 144) rfl rfl ?_
    refine w_istore_n (q := 145) (L' := [some (.ref 104), u1, some (w_i (s0 + 1)), some (w_i l3)]) (M' := []) rfl rfl rfl rfl rfl ?_
    refine w_iinc (q := 148) (L' := [some (.ref 104), u1, some (w_i (s0 + 1)), some (w_i (l3 + 1))]) (M' := []) rfl rfl rfl rfl rfl rfl ?_
    refine w_goto (t := 118) rfl rfl ?_
    exact k
theorem b285_172 {xs : Nat → Int32} {xl : Nat} {I J : w_I} {b : Bool} {Q : Option Value → w_I → w_I → Bool → Prop} {u1 u2 : Option Value} {l3 s0 s1 : Int} (k : ((-2147483648 ≤ s1 ∧ s1 < 2147483648) ∧ ((s1 = 0 → w_T xs xl 285 155 [some (.ref 104), u1, some (w_i (s0 + 0)), some (w_i (l3 + 1))] [] [] I J b Q) ∧ (¬ s1 = 0 → w_T xs xl 285 155 [some (.ref 104), u1, some (w_i (s0 + 1)), some (w_i (l3 + 1))] [] [] I J b Q)))) : w_T xs xl 285 172 [some (.ref 104), u1, u2, some (w_i l3)] [] [w_i s1, w_i s0] I J b Q := by
  obtain ⟨h1, k⟩ := k
  refine w_zeq (t := 179) (q := 175) rfl rfl rfl h1 (fun c2 => ?_) (fun c2 => ?_)
  · replace k := k.1 c2
    refine w_iconst (q := 180) rfl rfl ?_
    refine w_iadd (q := 181) rfl rfl ?_
    refine w_istore_n (q := 182) (L' := [some (.ref 104), u1, some (w_i (s0 + 0)), some (w_i l3)]) (M' := []) rfl rfl rfl rfl rfl ?_
    refine w_iinc (q := 185) (L' := [some (.ref 104), u1, some (w_i (s0 + 0)), some (w_i (l3 + 1))]) (M' := []) rfl rfl rfl rfl rfl rfl ?_
    refine w_goto (t := 155) rfl rfl ?_
    exact k
  · replace k := k.2 c2
    refine w_iconst (q := 176) rfl rfl ?_
    refine w_goto (t := 180) rfl rfl ?_
    refine w_iadd (q := 181) rfl rfl ?_
    refine w_istore_n (q := 182) (L' := [some (.ref 104), u1, some (w_i (s0 + 1)), some (w_i l3)]) (M' := []) rfl rfl rfl rfl rfl ?_
    refine w_iinc (q := 185) (L' := [some (.ref 104), u1, some (w_i (s0 + 1)), some (w_i (l3 + 1))]) (M' := []) rfl rfl rfl rfl rfl rfl ?_
    refine w_goto (t := 155) rfl rfl ?_
    exact k
end
