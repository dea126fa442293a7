section
/-! reading, the picture: what is told -/
-- sides, goods, names' tokens, step, lane, by, laws, rules, the late fault: number, token
abbrev z_S : Type := List Int × List Int × List Int × Int × Int × Int × (Int → Option (List Int)) × List (List z_L) × Int × Int
abbrev q_sd (S : z_S) : List Int := S.1
abbrev q_gd (S : z_S) : List Int := S.2.1
abbrev q_tk (S : z_S) : List Int := S.2.2.1
abbrev q_st (S : z_S) : Int := S.2.2.2.1
abbrev q_la (S : z_S) : Int := S.2.2.2.2.1
abbrev q_by (S : z_S) : Int := S.2.2.2.2.2.1
abbrev q_lw (S : z_S) : Int → Option (List Int) := S.2.2.2.2.2.2.1
abbrev q_ru (S : z_S) : List (List z_L) := S.2.2.2.2.2.2.2.1
abbrev q_ln (S : z_S) : Int := S.2.2.2.2.2.2.2.2.1
abbrev q_li (S : z_S) : Int := S.2.2.2.2.2.2.2.2.2
abbrev z_R : Type := Int × Int × z_S
def z_S0 : z_S := ([], [], [], 1, 3, 0, (fun _ => none), [], 0, 0)
def z_nl (z i : Int) (S : z_S) : z_S := if q_ln S = 0 then (q_sd S, q_gd S, q_tk S, q_st S, q_la S, q_by S, q_lw S, q_ru S, z, i) else S
def z_ah (t side g : Int) (S : z_S) : z_S := (q_sd S ++ [side], q_gd S ++ [g], q_tk S ++ [t], q_st S, q_la S, q_by S, q_lw S, q_ru S, q_ln S, q_li S)
def z_ast (v : Int) (S : z_S) : z_S := (q_sd S, q_gd S, q_tk S, v, q_la S, q_by S, q_lw S, q_ru S, q_ln S, q_li S)
def z_ala (v : Int) (S : z_S) : z_S := (q_sd S, q_gd S, q_tk S, q_st S, v, q_by S, q_lw S, q_ru S, q_ln S, q_li S)
def z_aby (v : Int) (S : z_S) : z_S := (q_sd S, q_gd S, q_tk S, q_st S, q_la S, v, q_lw S, q_ru S, q_ln S, q_li S)
def z_alw (w : Int) (C : List Int) (S : z_S) : z_S := (q_sd S, q_gd S, q_tk S, q_st S, q_la S, q_by S, (fun j => if j = w then some C else q_lw S j), q_ru S, q_ln S, q_li S)
def z_aru (L : List z_L) (S : z_S) : z_S := (q_sd S, q_gd S, q_tk S, q_st S, q_la S, q_by S, q_lw S, q_ru S ++ [L], q_ln S, q_li S)
def z_pa (h : Int) (S : z_S) (f : Int → z_R) : z_R := if 400 ≤ h then (2, h, S) else f (h + 1)
def z_wa (K : Int → Int) (w h : Int) (S : z_S) (f : Int → z_R) : z_R := if K h = w then z_pa h S f else (1, h, S)
def z_nu (K V : Int → Int) (lo hi h : Int) (S : z_S) (f : z_S → Int → z_R) : z_R := if K h = 3 then z_pa h S (fun h' => f (if V h < lo ∨ hi < V h then z_nl 5 h S else S) h') else (1, h, S)
def z_in (M : Int → Int) (v : Int) : List Int → Bool
  | [] => false
  | t :: r => decide (M t = v) || z_in M v r
def z_en (K : Int → Int) (S : z_S) (h : Int) : z_R := z_wa K 4 h S (fun h' => (0, h', S))
def z_fi (K V : Int → Int) (lo hi h : Int) (S : z_S) : z_R := z_nu K V lo hi h S (z_en K)
def z_nn (M : Int → Int) (h1 : Int) (S : z_S) : z_S := if z_in M (M h1) (q_tk S) = true then z_nl 3 h1 S else S
def z_th2 (K V M : Int → Int) (h1 h3 side : Int) (S : z_S) : z_R := z_fi K V 0 99 h3 (z_ah h1 side (V h3) (z_nn M h1 S))
def z_th1 (K V M : Int → Int) (S : z_S) (h2 : Int) : z_R := if K h2 = 21 then z_pa h2 S (fun h3 => z_th2 K V M (h2 - 1) h3 1 S) else if K h2 = 22 then z_pa h2 S (fun h3 => z_th2 K V M (h2 - 1) h3 2 S) else z_th2 K V M (h2 - 1) h2 0 S
def z_th (K V M : Int → Int) (h : Int) (S : z_S) : z_R := if (q_sd S).length = 24 then (2, h, S) else z_pa h S (fun h1 => z_wa K 2 h1 S (z_th1 K V M S))
def z_ts (K V : Int → Int) (h : Int) (S : z_S) : z_R := z_pa h S (fun h1 => z_fi K V 1 20 h1 (z_ast (V h1) S))
def z_tn (K V : Int → Int) (h : Int) (S : z_S) : z_R := z_pa h S (fun h1 => z_fi K V 1 9 h1 (z_ala (V h1) S))
def z_tb1 (K : Int → Int) (S : z_S) (h1 : Int) : z_R := if K h1 = 26 then z_pa h1 S (z_en K (z_aby 0 S)) else if K h1 = 27 then z_pa h1 S (z_en K (z_aby 1 S)) else (1, h1, S)
def z_tb (K : Int → Int) (h : Int) (S : z_S) : z_R := z_pa h S (z_tb1 K S)
def z_tl2 (K : Int → Int) (w : Int) (e : z_E) (S : z_S) : z_R := if e.1 ≠ 0 then (e.1, e.2.1, S) else z_en K (z_alw w e.2.2 S) e.2.1
def z_tl (K V : Int → Int) (w h : Int) (S : z_S) : z_R := z_pa h S (fun h1 => z_wa K 5 h1 S (fun h2 => z_tl2 K w (z_ex K V (401 - h2).toNat h2 1 0 [] []) S))
def z_tru2 (K : Int → Int) (e : Int × Int × List z_L) (S : z_S) : z_R := if e.1 ≠ 0 then (e.1, e.2.1, S) else z_en K (z_aru e.2.2 S) e.2.1
def z_tru (K V : Int → Int) (h : Int) (S : z_S) : z_R := if (q_ru S).length = 6 then (2, h, S) else z_pa h S (fun h1 => z_wa K 33 h1 S (fun h2 => z_tru2 K (z_co K V (401 - h2).toNat h2 0) S))
def z_pt (K V M : Int → Int) (h : Int) (S : z_S) : z_R := if K h = 20 then z_th K V M h S else if K h = 23 then z_ts K V h S else if K h = 24 then z_tn K V h S else if K h = 25 then z_tb K h S else if 28 ≤ K h ∧ K h ≤ 31 then z_tl K V (K h - 28) h S else if K h = 32 then z_tru K V h S else (1, h, S)
def z_all (K V M : Int → Int) : Nat → Int → z_S → z_R
  | 0, h, S => (1, h, S)
  | n + 1, h, S => if K h = 0 then (0, h, S) else if (z_pt K V M h S).1 ≠ 0 then z_pt K V M h S else z_all K V M n (z_pt K V M h S).2.1 (z_pt K V M h S).2.2
/-- lengths and tokens -/
def zQ (K : Int → Int) (h : Int) (S : z_S) : Prop := ((q_gd S).length = (q_sd S).length ∧ (q_tk S).length = (q_sd S).length ∧ (q_sd S).length ≤ 24 ∧ (q_ru S).length ≤ 6) ∧ (∀ t ∈ q_tk S, 0 ≤ t ∧ t < h ∧ K t = 2) ∧ (q_ln S ≠ 0 → 0 ≤ q_li S ∧ q_li S < h)
/-- sound values -/
def zV2 (S : z_S) : Prop := (q_ln S = 0 ∨ q_ln S = 3 ∨ q_ln S = 5) ∧ (∀ x ∈ q_sd S, 0 ≤ x ∧ x ≤ 2) ∧ (∀ g ∈ q_gd S, (0 ≤ g ∧ g ≤ 9999) ∧ (q_ln S = 0 → g ≤ 99)) ∧ ((0 ≤ q_st S ∧ q_st S ≤ 9999) ∧ (q_ln S = 0 → 1 ≤ q_st S ∧ q_st S ≤ 20)) ∧ ((0 ≤ q_la S ∧ q_la S ≤ 9999) ∧ (q_ln S = 0 → 1 ≤ q_la S ∧ q_la S ≤ 9)) ∧ (q_by S = 0 ∨ q_by S = 1) ∧ (∀ w C, q_lw S w = some C → z_dp C 0 1) ∧ (∀ L ∈ q_ru S, L ≠ [] ∧ z_ha L = 0 ∧ ∀ l ∈ L, z_lok l)
section ZP
variable {K V P M : Int → Int} {N : Int}
theorem z_pa_i (Φ : z_R → Prop) (hN : zN K V P N) {h : Int} {S : z_S} {f : Int → z_R} (hh : 0 ≤ h ∧ h ≤ N) (hk : 2 ≤ K h) (c2 : Φ (2, h, S)) (g : h + 1 ≤ N → Φ (f (h + 1))) : Φ (z_pa h S f) := by
  unfold z_pa
  by_cases c : 400 ≤ h
  · rw [if_pos c]
    exact c2
  · rw [if_neg c]
    exact g (zN_x hN hh hk c)
theorem z_wa_i (Φ : z_R → Prop) (hN : zN K V P N) {h w : Int} {S : z_S} {f : Int → z_R} (hh : 0 ≤ h ∧ h ≤ N) (hw : 2 ≤ w) (c2 : Φ (2, h, S)) (c1 : Φ (1, h, S)) (g : K h = w → h + 1 ≤ N → Φ (f (h + 1))) : Φ (z_wa K w h S f) := by
  unfold z_wa
  by_cases c : K h = w
  · rw [if_pos c]
    exact z_pa_i Φ hN hh (by omega) c2 (g c)
  · rw [if_neg c]
    exact c1
/-- what a tell comes to is sound -/
def zOK (K : Int → Int) (N h0 : Int) (R : z_R) : Prop := (R.1 = 0 → zQ K R.2.1 R.2.2 ∧ zV2 R.2.2 ∧ h0 + 1 ≤ R.2.1) ∧ R.2.1 ≤ N ∧ 0 ≤ R.2.1 ∧ 0 ≤ R.1
theorem zOK_b {h0 z h : Int} {S : z_S} (hz : 0 < z) (hh : 0 ≤ h ∧ h ≤ N) : zOK K N h0 (z, h, S) := ⟨fun x => by have x : z = 0 := x; omega, hh.2, hh.1, by show 0 ≤ z; omega⟩
theorem zOK_en (hN : zN K V P N) {h0 h : Int} {S : z_S} (hh : 0 ≤ h ∧ h ≤ N) (h1 : h0 ≤ h) (hq : zQ K (h + 1) S) (hv : zV2 S) : zOK K N h0 (z_en K S h) := by
  refine z_wa_i (zOK K N h0) hN hh (by decide) (zOK_b (by decide) hh) (zOK_b (by decide) hh) (fun _ x => ?_)
  exact ⟨fun _ => ⟨hq, hv, by show h0 + 1 ≤ h + 1; omega⟩, x, by show 0 ≤ h + 1; omega, by show (0 : Int) ≤ 0; decide⟩
theorem zQ_m {h h' : Int} {S : z_S} (hq : zQ K h S) (hh : h ≤ h') : zQ K h' S := ⟨hq.1, fun t ht => ⟨(hq.2.1 t ht).1, by have := (hq.2.1 t ht).2.1; omega, (hq.2.1 t ht).2.2⟩, fun x => ⟨(hq.2.2 x).1, by have := (hq.2.2 x).2; omega⟩⟩
theorem zQ_nl {h z i : Int} {S : z_S} (hq : zQ K h S) (hi : 0 ≤ i ∧ i < h) : zQ K h (z_nl z i S) := by
  unfold z_nl
  split
  · exact ⟨hq.1, hq.2.1, fun _ => hi⟩
  · exact hq
/-- sound if a number that is too small or too large is told late -/
theorem zOK_fi (hN : zN K V P N) {h0 lo hi h : Int} {S : z_S} (hh : 0 ≤ h ∧ h ≤ N) (h1 : h0 ≤ h) (hq : zQ K h S) (hv0 : ¬ (V h < lo ∨ hi < V h) → zV2 S) (hv1 : zV2 (z_nl 5 h S)) : zOK K N h0 (z_fi K V lo hi h S) := by
  unfold z_fi z_nu
  by_cases c : K h = 3
  · rw [if_pos c]
    refine z_pa_i (zOK K N h0) hN hh (by omega) (zOK_b (by decide) hh) (fun x => ?_)
    by_cases c2 : V h < lo ∨ hi < V h
    · rw [if_pos c2]
      exact zOK_en hN ⟨by omega, x⟩ (by omega) (zQ_nl (zQ_m hq (by omega)) (by omega)) hv1
    · rw [if_neg c2]
      exact zOK_en hN ⟨by omega, x⟩ (by omega) (zQ_m hq (by omega)) (hv0 c2)
  · rw [if_neg c]
    exact zOK_b (by decide) hh
theorem zV2_nl {z i : Int} {S : z_S} (hz : z = 3 ∨ z = 5) (hs : zV2 S) : zV2 (z_nl z i S) := by
  obtain ⟨v1, v2, v3, v4, v5, v6, v7, v8⟩ := hs
  unfold z_nl
  split
  · exact ⟨Or.inr hz, v2, fun g hg => ⟨(v3 g hg).1, fun x => by have x : z = 0 := x; omega⟩, ⟨v4.1, fun x => by have x : z = 0 := x; omega⟩, ⟨v5.1, fun x => by have x : z = 0 := x; omega⟩, v6, v7, v8⟩
  · exact ⟨v1, v2, v3, v4, v5, v6, v7, v8⟩
/-- sound but for numbers that may be too large -/
theorem zV2_nl5 {i : Int} {S : z_S} (v1 : q_ln S = 0 ∨ q_ln S = 3 ∨ q_ln S = 5) (v2 : ∀ x ∈ q_sd S, 0 ≤ x ∧ x ≤ 2) (v3 : ∀ g ∈ q_gd S, 0 ≤ g ∧ g ≤ 9999) (v4 : 0 ≤ q_st S ∧ q_st S ≤ 9999) (v5 : 0 ≤ q_la S ∧ q_la S ≤ 9999) (v6 : q_by S = 0 ∨ q_by S = 1) (v7 : ∀ w C, q_lw S w = some C → z_dp C 0 1) (v8 : ∀ L ∈ q_ru S, L ≠ [] ∧ z_ha L = 0 ∧ ∀ l ∈ L, z_lok l) : zV2 (z_nl 5 i S) := by
  unfold z_nl
  by_cases c : q_ln S = 0
  · rw [if_pos c]
    have nz : ∀ {p : Prop}, (5 : Int) = 0 → p := fun x => absurd x (by decide)
    exact ⟨Or.inr (Or.inr rfl), v2, fun g hg => ⟨v3 g hg, nz⟩, ⟨v4, nz⟩, ⟨v5, nz⟩, v6, v7, v8⟩
  · rw [if_neg c]
    exact ⟨v1, v2, fun g hg => ⟨v3 g hg, fun x => absurd x c⟩, ⟨v4, fun x => absurd x c⟩, ⟨v5, fun x => absurd x c⟩, v6, v7, v8⟩
theorem z_pt_ok (hN : zN K V P N) {h : Int} {S : z_S} (hh : 0 ≤ h ∧ h ≤ N) (hq : zQ K h S) (hv : zV2 S) : zOK K N h (z_pt K V M h S) := by
  obtain ⟨v1, v2, v3, v4, v5, v6, v7, v8⟩ := hv
  have hv : zV2 S := ⟨v1, v2, v3, v4, v5, v6, v7, v8⟩
  have vb : ∀ i, 0 ≤ i → i ≤ N → 0 ≤ V i ∧ V i ≤ 9999 := fun i x y => (hN.2.2.2.1 i x y).2.1
  unfold z_pt
  by_cases c1 : K h = 20
  · rw [if_pos c1]
    unfold z_th
    by_cases c2 : (q_sd S).length = 24
    · rw [if_pos c2]
      exact zOK_b (by decide) hh
    · rw [if_neg c2]
      refine z_pa_i (zOK K N h) hN hh (by omega) (zOK_b (by decide) hh) (fun x1 => ?_)
      refine z_wa_i (zOK K N h) hN ⟨by omega, x1⟩ (by decide) (zOK_b (by decide) ⟨by omega, x1⟩) (zOK_b (by decide) ⟨by omega, x1⟩) (fun k2 x2 => ?_)
      have fin : ∀ h3 side : Int, (h + 1 + 1 ≤ h3 ∧ h3 ≤ N) → (0 ≤ side ∧ side ≤ 2) → zOK K N h (z_th2 K V M (h + 1 + 1 - 1) h3 side S) := by
        intro h3 side y1 y2
        have vh := vb h3 (by omega) y1.2
        have hq3 := zQ_m hq (h' := h3) (by omega)
        have hq2 : zQ K h3 (z_nn M (h + 1 + 1 - 1) S) := by
          unfold z_nn
          split
          · exact zQ_nl hq3 (by omega)
          · exact hq3
        have hv2 : zV2 (z_nn M (h + 1 + 1 - 1) S) := by
          unfold z_nn
          split
          · exact zV2_nl (Or.inl rfl) hv
          · exact hv
        have len : (q_sd (z_nn M (h + 1 + 1 - 1) S)).length = (q_sd S).length := by
          unfold z_nn z_nl
          repeat' split
          all_goals rfl
        unfold z_th2
        generalize z_nn M (h + 1 + 1 - 1) S = T at hq2 hv2 len
        have hlen := hq.1.2.2.1
        obtain ⟨w1, w2, w3, w4, w5, w6, w7, w8⟩ := hv2
        have qa : zQ K h3 (z_ah (h + 1 + 1 - 1) side (V h3) T) := by
          obtain ⟨⟨q1, q2, q3, q4⟩, q5, q6⟩ := hq2
          refine ⟨⟨?_, ?_, ?_, q4⟩, fun t ht => ?_, q6⟩
          · show (q_gd T ++ [V h3]).length = (q_sd T ++ [side]).length
            rw [List.length_append, List.length_append, q1]
            rfl
          · show (q_tk T ++ [h + 1 + 1 - 1]).length = (q_sd T ++ [side]).length
            rw [List.length_append, List.length_append, q2]
            rfl
          · show (q_sd T ++ [side]).length ≤ 24
            rw [List.length_append]
            show (q_sd T).length + 1 ≤ 24
            omega
          · rcases List.mem_append.mp ht with e | e
            · exact q5 t e
            · rw [List.mem_singleton.mp e, show h + 1 + 1 - 1 = h + 1 by omega]
              exact ⟨by omega, by omega, k2⟩
        have sd : ∀ x ∈ q_sd (z_ah (h + 1 + 1 - 1) side (V h3) T), 0 ≤ x ∧ x ≤ 2 := fun x hx => by
          rcases List.mem_append.mp hx with e | e
          · exact w2 x e
          · rw [List.mem_singleton.mp e]; exact y2
        refine zOK_fi hN ⟨by omega, y1.2⟩ (by omega) qa (fun c => ⟨w1, sd, fun g hg => ?_, w4, w5, w6, w7, w8⟩) (zV2_nl5 w1 sd (fun g hg => ?_) w4.1 w5.1 w6 w7 w8)
        · rcases List.mem_append.mp hg with e | e
          · exact w3 g e
          · rw [List.mem_singleton.mp e]; exact ⟨vh, fun _ => by omega⟩
        · rcases List.mem_append.mp hg with e | e
          · exact (w3 g e).1
          · rw [List.mem_singleton.mp e]; exact vh
      unfold z_th1
      by_cases c3 : K (h + 1 + 1) = 21
      · rw [if_pos c3]
        exact z_pa_i (zOK K N h) hN ⟨by omega, x2⟩ (by omega) (zOK_b (by decide) ⟨by omega, x2⟩) (fun x3 => fin _ 1 ⟨by omega, x3⟩ (by decide))
      · rw [if_neg c3]
        by_cases c4 : K (h + 1 + 1) = 22
        · rw [if_pos c4]
          exact z_pa_i (zOK K N h) hN ⟨by omega, x2⟩ (by omega) (zOK_b (by decide) ⟨by omega, x2⟩) (fun x3 => fin _ 2 ⟨by omega, x3⟩ (by decide))
        · rw [if_neg c4]
          exact fin _ 0 ⟨by omega, x2⟩ (by decide)
  · rw [if_neg c1]
    by_cases c2 : K h = 23
    · rw [if_pos c2]
      refine z_pa_i (zOK K N h) hN hh (by omega) (zOK_b (by decide) hh) (fun x1 => ?_)
      have vh := vb (h + 1) (by omega) x1
      have q1 : zQ K (h + 1) (z_ast (V (h + 1)) S) := zQ_m (h := h) hq (by omega)
      exact zOK_fi hN ⟨by omega, x1⟩ (by omega) q1 (fun c => ⟨v1, v2, v3, ⟨vh, fun _ => by show 1 ≤ V (h + 1) ∧ V (h + 1) ≤ 20; omega⟩, v5, v6, v7, v8⟩) (zV2_nl5 v1 v2 (fun g hg => (v3 g hg).1) vh v5.1 v6 v7 v8)
    · rw [if_neg c2]
      by_cases c3 : K h = 24
      · rw [if_pos c3]
        refine z_pa_i (zOK K N h) hN hh (by omega) (zOK_b (by decide) hh) (fun x1 => ?_)
        have vh := vb (h + 1) (by omega) x1
        have q1 : zQ K (h + 1) (z_ala (V (h + 1)) S) := zQ_m (h := h) hq (by omega)
        exact zOK_fi hN ⟨by omega, x1⟩ (by omega) q1 (fun c => ⟨v1, v2, v3, v4, ⟨vh, fun _ => by show 1 ≤ V (h + 1) ∧ V (h + 1) ≤ 9; omega⟩, v6, v7, v8⟩) (zV2_nl5 v1 v2 (fun g hg => (v3 g hg).1) v4.1 vh v6 v7 v8)
      · rw [if_neg c3]
        by_cases c4 : K h = 25
        · rw [if_pos c4]
          refine z_pa_i (zOK K N h) hN hh (by omega) (zOK_b (by decide) hh) (fun x1 => ?_)
          unfold z_tb1
          have qb : ∀ v, zQ K (h + 1 + 1 + 1) (z_aby v S) := fun v => zQ_m (h := h) hq (by omega)
          by_cases c5 : K (h + 1) = 26
          · rw [if_pos c5]
            exact z_pa_i (zOK K N h) hN ⟨by omega, x1⟩ (by omega) (zOK_b (by decide) ⟨by omega, x1⟩) (fun x2 => zOK_en hN ⟨by omega, x2⟩ (by omega) (qb 0) ⟨v1, v2, v3, v4, v5, Or.inl rfl, v7, v8⟩)
          · rw [if_neg c5]
            by_cases c6 : K (h + 1) = 27
            · rw [if_pos c6]
              exact z_pa_i (zOK K N h) hN ⟨by omega, x1⟩ (by omega) (zOK_b (by decide) ⟨by omega, x1⟩) (fun x2 => zOK_en hN ⟨by omega, x2⟩ (by omega) (qb 1) ⟨v1, v2, v3, v4, v5, Or.inr rfl, v7, v8⟩)
            · rw [if_neg c6]
              exact zOK_b (by decide) ⟨by omega, x1⟩
        · rw [if_neg c4]
          by_cases c5 : 28 ≤ K h ∧ K h ≤ 31
          · rw [if_pos c5]
            refine z_pa_i (zOK K N h) hN hh (by omega) (zOK_b (by decide) hh) (fun x1 => ?_)
            refine z_wa_i (zOK K N h) hN ⟨by omega, x1⟩ (by decide) (zOK_b (by decide) ⟨by omega, x1⟩) (zOK_b (by decide) ⟨by omega, x1⟩) (fun k2 x2 => ?_)
            have hx := z_ex_k (V := V) hN (h := h + 1 + 1) ⟨by omega, x2⟩
            generalize z_ex K V (401 - (h + 1 + 1)).toNat (h + 1 + 1) 1 0 [] [] = E at hx
            obtain ⟨y1, y2, y3, y4⟩ := hx
            unfold z_tl2
            by_cases c6 : E.1 = 0
            · rw [if_neg (fun x => x c6)]
              obtain ⟨z1, z2, z3⟩ := y1 c6
              refine zOK_en hN ⟨y3, y2⟩ (by omega) (zQ_m (h := h) hq (by omega)) ⟨v1, v2, v3, v4, v5, v6, fun w C hC => ?_, v8⟩
              have hC : (if w = K h - 28 then some E.2.2 else q_lw S w) = some C := hC
              split at hC
              · rw [← Option.some.inj hC]; exact z1
              · exact v7 w C hC
            · rw [if_pos c6]
              exact zOK_b (by omega) ⟨y3, y2⟩
          · rw [if_neg c5]
            by_cases c6 : K h = 32
            · rw [if_pos c6]
              unfold z_tru
              by_cases c7 : (q_ru S).length = 6
              · rw [if_pos c7]
                exact zOK_b (by decide) hh
              · rw [if_neg c7]
                refine z_pa_i (zOK K N h) hN hh (by omega) (zOK_b (by decide) hh) (fun x1 => ?_)
                refine z_wa_i (zOK K N h) hN ⟨by omega, x1⟩ (by decide) (zOK_b (by decide) ⟨by omega, x1⟩) (zOK_b (by decide) ⟨by omega, x1⟩) (fun k2 x2 => ?_)
                have hx := z_co_ok (V := V) hN (401 - (h + 1 + 1)).toNat (h + 1 + 1) 0 (by omega) x2 (Or.inl rfl)
                generalize z_co K V (401 - (h + 1 + 1)).toNat (h + 1 + 1) 0 = E at hx
                obtain ⟨y1, y2, y3, y4⟩ := hx
                unfold z_tru2
                by_cases c8 : E.1 = 0
                · rw [if_neg (fun x => x c8)]
                  obtain ⟨z1, z2, z3, z4, z5⟩ := y1 c8
                  obtain ⟨⟨q1, q2, q3, q4⟩, q5, q6⟩ := zQ_m hq (h' := E.2.1 + 1) (by omega)
                  refine zOK_en hN ⟨y3, y2⟩ (by omega) ⟨⟨q1, q2, q3, ?_⟩, q5, q6⟩ ⟨v1, v2, v3, v4, v5, v6, v7, fun L hL => ?_⟩
                  · show (q_ru S ++ [E.2.2]).length ≤ 6
                    rw [List.length_append]
                    show (q_ru S).length + 1 ≤ 6
                    omega
                  · rcases List.mem_append.mp hL with e | e
                    · exact v8 L e
                    · rw [List.mem_singleton.mp e]; exact ⟨z3, z2, z1⟩
                · rw [if_pos c8]
                  exact zOK_b (by omega) ⟨y3, y2⟩
            · rw [if_neg c6]
              exact zOK_b (by decide) hh
theorem z_all_ok (hN : zN K V P N) : ∀ (n : Nat) (h : Int) (S : z_S), 0 ≤ h → h ≤ N → zQ K h S → zV2 S → ((z_all K V M n h S).1 = 0 → zQ K (z_all K V M n h S).2.1 (z_all K V M n h S).2.2 ∧ zV2 (z_all K V M n h S).2.2) ∧ (z_all K V M n h S).2.1 ≤ N ∧ 0 ≤ (z_all K V M n h S).2.1 ∧ 0 ≤ (z_all K V M n h S).1
  | 0, h, S, a0, a1, a2, a3 => by
    unfold z_all
    exact ⟨fun x => absurd x (by simp), a1, a0, by simp⟩
  | n + 1, h, S, a0, a1, a2, a3 => by
    obtain ⟨p1, p2, p3, p4⟩ := z_pt_ok (M := M) hN ⟨a0, a1⟩ a2 a3
    unfold z_all
    by_cases c : K h = 0
    · rw [if_pos c]
      exact ⟨fun _ => ⟨a2, a3⟩, a1, a0, by simp⟩
    · rw [if_neg c]
      generalize z_pt K V M h S = R at p1 p2 p3 p4
      by_cases c2 : R.1 = 0
      · rw [if_neg (fun x => x c2)]
        obtain ⟨q1, q2, q3⟩ := p1 c2
        exact z_all_ok hN n _ _ p3 p2 q1 q2
      · rw [if_pos c2]
        exact ⟨fun x => absurd x c2, p2, p3, p4⟩
end ZP
end
