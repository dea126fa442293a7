section
/-! reading, the picture: bytes, tokens -/
abbrev t_bl (x : Int) : Prop := x = 32 ∨ x = 9 ∨ x = 10 ∨ x = 13
/-- behind the blanks -/
def t_sk (G : Int → Int) : Nat → Int → Int
  | 0, p => p
  | m + 1, p => if t_bl (G p) then t_sk G m (p + 1) else p
/-- behind a run of bytes from a to z -/
def t_rn (G : Int → Int) (a z : Int) : Nat → Int → Int
  | 0, p => p
  | m + 1, p => if a ≤ G p ∧ G p ≤ z then t_rn G a z m (p + 1) else p
def t_nm (G : Int → Int) : Nat → Int → Int → Int
  | 0, _, v => v
  | m + 1, p, v => t_nm G m (p + 1) (v * 27 + G p - 96)
def t_dg (G : Int → Int) : Nat → Int → Int → Int
  | 0, _, v => v
  | m + 1, p, v => t_dg G m (p + 1) (10 * v + G p - 48)
theorem t_sk_b {G : Int → Int} : ∀ (m : Nat) (p : Int), p ≤ t_sk G m p ∧ t_sk G m p ≤ p + m
  | 0, p => by
    unfold t_sk
    omega
  | m + 1, p => by
    unfold t_sk
    split
    · have := t_sk_b (G := G) m (p + 1)
      omega
    · omega
theorem t_rn_b {G : Int → Int} {a z : Int} : ∀ (m : Nat) (p : Int), p ≤ t_rn G a z m p ∧ t_rn G a z m p ≤ p + m ∧ ∀ i, p ≤ i → i < t_rn G a z m p → a ≤ G i ∧ G i ≤ z
  | 0, p => by
    unfold t_rn
    refine ⟨by omega, by omega, fun i x y => by omega⟩
  | m + 1, p => by
    unfold t_rn
    split
    · rename_i h
      have ih := t_rn_b (G := G) (a := a) (z := z) m (p + 1)
      refine ⟨by omega, by omega, fun i x y => ?_⟩
      by_cases e : i = p
      · subst e
        exact h
      · exact ih.2.2 i (by omega) y
    · refine ⟨by omega, by omega, fun i x y => by omega⟩
theorem t_rn_1 {G : Int → Int} {a z n p : Int} (hp : p < n) (h : a ≤ G p ∧ G p ≤ z) : p + 1 ≤ t_rn G a z (n - p).toNat p := by
  obtain ⟨m, hm⟩ : ∃ m, (n - p).toNat = m + 1 := ⟨(n - p).toNat - 1, by omega⟩
  rw [hm]
  unfold t_rn
  rw [if_pos h]
  exact (t_rn_b m (p + 1)).1
/-- names as numbers -/
theorem t_nm_r {G : Int → Int} : ∀ (m : Nat) (p v : Int), t_nm G (m + 1) p v = t_nm G m p v * 27 + G (p + m) - 96
  | 0, p, v => by
    show v * 27 + G p - 96 = v * 27 + G (p + (0 : Nat)) - 96
    rw [show p + ((0 : Nat) : Int) = p by omega]
  | m + 1, p, v => by
    have ih := t_nm_r (G := G) m (p + 1) (v * 27 + G p - 96)
    rw [show p + 1 + (m : Int) = p + ((m + 1 : Nat) : Int) by omega] at ih
    exact ih
abbrev t_let (G : Int → Int) (p : Int) (L : Nat) : Prop := ∀ i : Int, 0 ≤ i → i < L → 97 ≤ G (p + i) ∧ G (p + i) ≤ 122
theorem t_nm_0 {G : Int → Int} : ∀ (m : Nat) (p : Int), t_let G p m → 0 ≤ t_nm G m p 0
  | 0, p, _ => by
    unfold t_nm
    omega
  | m + 1, p, h => by
    have ih := t_nm_0 (G := G) m p (fun i x y => h i x (by omega))
    have h1 := h m (by omega) (by omega)
    rw [t_nm_r]
    omega
theorem t_nm_i {G G' : Int → Int} : ∀ (m m' : Nat) (p p' : Int), t_let G p m → t_let G' p' m' → t_nm G m p 0 = t_nm G' m' p' 0 → m = m' ∧ ∀ i : Int, 0 ≤ i → i < m → G (p + i) = G' (p' + i)
  | 0, 0, p, p', _, _, _ => ⟨rfl, fun i x y => by omega⟩
  | 0, m' + 1, p, p', _, h', e => by
    have h0 := t_nm_0 m' p' (fun i x y => h' i x (by omega))
    have h1 := h' m' (by omega) (by omega)
    rw [t_nm_r] at e
    unfold t_nm at e
    omega
  | m + 1, 0, p, p', h, _, e => by
    have h0 := t_nm_0 m p (fun i x y => h i x (by omega))
    have h1 := h m (by omega) (by omega)
    rw [t_nm_r] at e
    have e2 : t_nm G m p 0 * 27 + G (p + m) - 96 = 0 := e
    omega
  | m + 1, m' + 1, p, p', h, h', e => by
    have h1 := h m (by omega) (by omega)
    have h1' := h' m' (by omega) (by omega)
    rw [t_nm_r, t_nm_r] at e
    have ih := t_nm_i m m' p p' (fun i x y => h i x (by omega)) (fun i x y => h' i x (by omega)) (by omega)
    obtain ⟨e1, e2⟩ := ih
    subst e1
    refine ⟨rfl, fun i x y => ?_⟩
    by_cases e3 : i = m
    · subst e3
      omega
    · exact e2 i x (by omega)
theorem t_nm_c {G G' : Int → Int} : ∀ (m : Nat) (p p' v : Int), (∀ i : Int, 0 ≤ i → i < m → G (p + i) = G' (p' + i)) → t_nm G m p v = t_nm G' m p' v
  | 0, _, _, _, _ => rfl
  | m + 1, p, p', v, h => by
    have h0 := h 0 (by omega) (by omega)
    rw [Int.add_zero, Int.add_zero] at h0
    show t_nm G m (p + 1) (v * 27 + G p - 96) = t_nm G' m (p' + 1) (v * 27 + G' p' - 96)
    rw [h0]
    refine t_nm_c m (p + 1) (p' + 1) _ (fun i x y => ?_)
    have := h (i + 1) (by omega) (by omega)
    rw [show p + 1 + i = p + (i + 1) by omega, show p' + 1 + i = p' + (i + 1) by omega]
    exact this
/-- the words: how long, as a number -/
def t_wt : List (Nat × Int) := [(5, 4562600), (4, 240023), (5, 9748424), (4, 388708), (4, 237308), (2, 79), (6, 78204737), (4, 259565), (4, 70517), (5, 12532058), (5, 1899199), (4, 85447), (7, 2549467418), (2, 249), (2, 423), (3, 1111), (3, 10631), (3, 923), (4, 381245), (4, 237281), (5, 7214732), (4, 131638), (2, 555), (3, 4419), (3, 5146), (5, 6688714), (4, 149125)]
def t_wi (v : Int) : List (Nat × Int) → Int → Int
  | [], _ => 2
  | x :: r, k => if v = x.2 then k else t_wi v r (k + 1)
def t_wd (v : Int) : Int := t_wi v t_wt 20
theorem t_wi_b (v : Int) : ∀ (l : List (Nat × Int)) (k : Int), t_wi v l k = 2 ∨ (k ≤ t_wi v l k ∧ t_wi v l k < k + l.length)
  | [], k => Or.inl rfl
  | x :: r, k => by
    unfold t_wi
    have hl : (((x :: r).length : Nat) : Int) = r.length + 1 := by simp
    split
    · right
      omega
    · have := t_wi_b v r (k + 1)
      omega
theorem t_wd_b (v : Int) : t_wd v = 2 ∨ (20 ≤ t_wd v ∧ t_wd v ≤ 46) := by
  have h := t_wi_b v t_wt 20
  have hl : ((t_wt.length : Nat) : Int) = 27 := rfl
  rw [hl] at h
  unfold t_wd
  omega
def t_sg (c : Int) : Int := if c = 59 then 4 else if c = 61 then 5 else if c = 43 then 6 else if c = 45 then 7 else if c = 42 then 8 else if c = 47 then 9 else if c = 60 then 12 else if c = 40 then 14 else if c = 41 then 15 else 1
def t_db (c : Int) : Int := if c = 61 then 10 else if c = 33 then 11 else 13
abbrev t_lt (x : Int) : Prop := 97 ≤ x ∧ x ≤ 122
abbrev t_dt (x : Int) : Prop := 48 ≤ x ∧ x ≤ 57
abbrev t_tw (G : Int → Int) (p : Int) : Prop := G (p + 1) = 61 ∧ (G p = 61 ∨ G p = 33 ∨ G p = 60)
def t_wl (G : Int → Int) (n p : Int) : Int := t_rn G 97 122 (n - p).toNat p - p
def t_dl (G : Int → Int) (n p : Int) : Int := t_rn G 48 57 (n - p).toNat p - p
def t_kw (G : Int → Int) (n p : Int) : Int := if 8 < t_wl G n p then 1 else t_wd (t_nm G (t_wl G n p).toNat p 0)
def t_vd (G : Int → Int) (n p : Int) : Int := if 4 < t_dl G n p then 0 else t_dg G (t_dl G n p).toNat p 0
def t_kd (G : Int → Int) (n p : Int) : Int := if n ≤ p then 0 else if t_lt (G p) then t_kw G n p else if t_dt (G p) then (if 4 < t_dl G n p then 1 else 3) else if t_tw G p then t_db (G p) else t_sg (G p)
def t_vl (G : Int → Int) (n p : Int) : Int := if n ≤ p then 0 else if t_lt (G p) then t_wl G n p else if t_dt (G p) then t_vd G n p else 0
def t_ln (G : Int → Int) (n p : Int) : Int := if n ≤ p then 0 else if t_lt (G p) then t_wl G n p else if t_dt (G p) then t_dl G n p else if t_tw G p then 2 else 1
def t_af (G : Int → Int) (n q : Int) : Int := t_sk G (n - q).toNat q
/-- where the i-th token's search begins; where it is -/
def t_q (G : Int → Int) (n : Int) : Nat → Int
  | 0 => 0
  | i + 1 => t_af G n (t_q G n i) + t_ln G n (t_af G n (t_q G n i))
def t_p (G : Int → Int) (n : Int) (i : Nat) : Int := t_af G n (t_q G n i)
section TK
variable {G : Int → Int} {n : Int}
theorem t_wl_b {p : Int} (hp : p < n) (h : t_lt (G p)) : 1 ≤ t_wl G n p ∧ p + t_wl G n p ≤ n ∧ t_let G p (t_wl G n p).toNat := by
  have h1 := t_rn_1 hp h
  have h2 := t_rn_b (G := G) (a := 97) (z := 122) (n - p).toNat p
  unfold t_wl
  refine ⟨by omega, by omega, fun i x y => h2.2.2 (p + i) (by omega) (by omega)⟩
theorem t_dl_b {p : Int} (hp : p < n) (h : t_dt (G p)) : 1 ≤ t_dl G n p ∧ p + t_dl G n p ≤ n ∧ ∀ i : Int, 0 ≤ i → i < t_dl G n p → 48 ≤ G (p + i) ∧ G (p + i) ≤ 57 := by
  have h1 := t_rn_1 hp h
  have h2 := t_rn_b (G := G) (a := 48) (z := 57) (n - p).toNat p
  unfold t_dl
  refine ⟨by omega, by omega, fun i x y => h2.2.2 (p + i) (by omega) (by omega)⟩
theorem t_dg_b {p : Int} : ∀ (m : Nat), m ≤ 4 → (∀ i : Int, 0 ≤ i → i < m → 48 ≤ G (p + i) ∧ G (p + i) ≤ 57) → 0 ≤ t_dg G m p 0 ∧ t_dg G m p 0 ≤ 9999
  | 0, _, _ => by simp [t_dg]
  | 1, _, h => by
    have h0 := h 0 (by omega) (by omega)
    rw [Int.add_zero] at h0
    simp only [t_dg]
    omega
  | 2, _, h => by
    have h0 := h 0 (by omega) (by omega)
    have h1 := h 1 (by omega) (by omega)
    rw [Int.add_zero] at h0
    simp only [t_dg]
    omega
  | 3, _, h => by
    have h0 := h 0 (by omega) (by omega)
    have h1 := h 1 (by omega) (by omega)
    have h2 := h (1 + 1) (by omega) (by omega)
    rw [Int.add_zero] at h0
    rw [← Int.add_assoc] at h2
    simp only [t_dg]
    omega
  | 4, _, h => by
    have h0 := h 0 (by omega) (by omega)
    have h1 := h 1 (by omega) (by omega)
    have h2 := h (1 + 1) (by omega) (by omega)
    have h3 := h (1 + 1 + 1) (by omega) (by omega)
    rw [Int.add_zero] at h0
    rw [← Int.add_assoc] at h2
    rw [← Int.add_assoc, ← Int.add_assoc] at h3
    simp only [t_dg]
    omega
  | m + 5, hm, _ => by omega
theorem t_vd_b {p : Int} (hp : p < n) (h : t_dt (G p)) : 0 ≤ t_vd G n p ∧ t_vd G n p ≤ 9999 := by
  have hd := t_dl_b hp h
  unfold t_vd
  split
  · omega
  · exact t_dg_b _ (by omega) (fun i x y => hd.2.2 i x (by omega))
theorem t_sg_b (c : Int) : 1 ≤ t_sg c ∧ t_sg c ≤ 15 ∧ t_sg c ≠ 2 ∧ t_sg c ≠ 3 ∧ t_sg c ≠ 10 ∧ t_sg c ≠ 11 ∧ t_sg c ≠ 13 := by
  unfold t_sg
  repeat' split
  all_goals decide
theorem t_db_b (c : Int) : t_db c = 10 ∨ t_db c = 11 ∨ t_db c = 13 := by
  unfold t_db
  repeat' split
  all_goals decide
theorem t_kw_b (p : Int) : t_kw G n p = 1 ∨ t_kw G n p = 2 ∨ (20 ≤ t_kw G n p ∧ t_kw G n p ≤ 46) := by
  unfold t_kw
  split
  · exact Or.inl rfl
  · exact Or.inr (t_wd_b _)
theorem t_kd_b (p : Int) : 0 ≤ t_kd G n p ∧ t_kd G n p ≤ 46 ∧ (n ≤ p ↔ t_kd G n p = 0) ∧ (t_kd G n p ≤ 15 ∨ 20 ≤ t_kd G n p) := by
  have h1 := t_kw_b (G := G) (n := n) p
  have h2 := t_sg_b (G p)
  have h3 := t_db_b (G p)
  unfold t_kd
  repeat' split
  all_goals omega
theorem t_vl_b {p : Int} (h0 : 0 ≤ p) (hn : n ≤ 2000) : 0 ≤ t_vl G n p ∧ t_vl G n p ≤ 9999 := by
  unfold t_vl
  repeat' split
  · omega
  · have := t_wl_b (G := G) (n := n) (p := p) (by omega) (by assumption)
    omega
  · exact t_vd_b (by omega) (by assumption)
  · omega
theorem t_ln_b (hz : ∀ k, n ≤ k → G k = 0) {p : Int} (hp : p ≤ n) : 0 ≤ t_ln G n p ∧ p + t_ln G n p ≤ n ∧ (p < n → 1 ≤ t_ln G n p) := by
  unfold t_ln
  repeat' split
  · omega
  · have := t_wl_b (G := G) (n := n) (p := p) (by omega) (by assumption)
    omega
  · have := t_dl_b (G := G) (n := n) (p := p) (by omega) (by assumption)
    omega
  · rename_i h
    have : p + 1 < n := by
      apply Decidable.byContradiction
      intro x
      have := hz (p + 1) (by omega)
      omega
    omega
  · omega
theorem t_af_b {q : Int} (hq : q ≤ n) : q ≤ t_af G n q ∧ t_af G n q ≤ n := by
  have := t_sk_b (G := G) (n - q).toNat q
  unfold t_af
  omega
theorem t_q_s (i : Nat) : t_q G n (i + 1) = t_p G n i + t_ln G n (t_p G n i) := rfl
theorem t_q_b (hn : 0 ≤ n) (hz : ∀ k, n ≤ k → G k = 0) : ∀ i : Nat, 0 ≤ t_q G n i ∧ t_q G n i ≤ n
  | 0 => by
    unfold t_q
    omega
  | i + 1 => by
    have ih := t_q_b hn hz i
    have h1 := t_af_b (G := G) ih.2
    have h2 := t_ln_b hz h1.2
    unfold t_q
    omega
theorem t_p_b (hn : 0 ≤ n) (hz : ∀ k, n ≤ k → G k = 0) (i : Nat) : 0 ≤ t_p G n i ∧ t_p G n i ≤ n := by
  have h := t_q_b hn hz i
  have h1 := t_af_b (G := G) h.2
  unfold t_p
  omega
theorem t_p_m (hn : 0 ≤ n) (hz : ∀ k, n ≤ k → G k = 0) {i : Nat} (h : 2 ≤ t_kd G n (t_p G n i)) : t_p G n i < t_p G n (i + 1) := by
  have h0 := t_kd_b (G := G) (n := n) (t_p G n i)
  have h1 := t_p_b hn hz i
  have h2 := t_ln_b hz h1.2
  have h3 := t_q_s (G := G) (n := n) i
  have h4 := t_q_b hn hz (i + 1)
  have h5 := t_af_b (G := G) h4.2
  have h6 : t_p G n (i + 1) = t_af G n (t_q G n (i + 1)) := rfl
  omega
def t_K (G : Int → Int) (n : Int) (i : Int) : Int := t_kd G n (t_p G n i.toNat)
def t_V (G : Int → Int) (n : Int) (i : Int) : Int := t_vl G n (t_p G n i.toNat)
def t_P (G : Int → Int) (n : Int) (i : Int) : Int := t_p G n i.toNat
def t_N (G : Int → Int) (n : Int) (i : Int) : Int := t_nm G (t_V G n i).toNat (t_P G n i) 0
/-- the tokens that count -/
def zN (K V P : Int → Int) (N : Int) : Prop := (0 ≤ N ∧ N ≤ 400) ∧ (∀ i, 0 ≤ i → i < N → 2 ≤ K i) ∧ (K N ≤ 1 ∨ N = 400) ∧ (∀ i, 0 ≤ i → i ≤ N → (0 ≤ K i ∧ K i ≤ 46) ∧ (0 ≤ V i ∧ V i ≤ 9999) ∧ (0 ≤ P i ∧ P i ≤ 2000) ∧ (K i ≤ 15 ∨ 20 ≤ K i)) ∧ ∀ i j, 0 ≤ i → i < j → j ≤ N → P i < P j
theorem t_zN (hn : 0 ≤ n ∧ n ≤ 2000) (hz : ∀ k, n ≤ k → G k = 0) {N : Int} (hN : 0 ≤ N ∧ N ≤ 400) (h1 : ∀ i, 0 ≤ i → i < N → 2 ≤ t_K G n i) (h2 : t_K G n N ≤ 1 ∨ N = 400) : zN (t_K G n) (t_V G n) (t_P G n) N := by
  refine ⟨hN, h1, h2, fun i x y => ?_, fun i j x y z => ?_⟩
  · have b := t_p_b hn.1 hz i.toNat
    have b1 := t_kd_b (G := G) (n := n) (t_p G n i.toNat)
    have b2 := t_vl_b (G := G) (n := n) (p := t_p G n i.toNat) b.1 hn.2
    unfold t_K t_V t_P
    omega
  · have key : ∀ d : Nat, i + 1 + d ≤ N → t_P G n i < t_P G n (i + 1 + d) := by
      intro d
      induction d with
      | zero =>
        intro hd
        have := t_p_m hn.1 hz (i := i.toNat) (h1 i x (by omega))
        unfold t_P
        rw [show (i + 1 + ((0 : Nat) : Int)).toNat = i.toNat + 1 by omega]
        exact this
      | succ d ih =>
        intro hd
        have ih := ih (by omega)
        have := t_p_m hn.1 hz (i := (i + 1 + d).toNat) (h1 (i + 1 + d) (by omega) (by omega))
        unfold t_P at ih ⊢
        rw [show (i + 1 + ((d + 1 : Nat) : Int)).toNat = (i + 1 + d).toNat + 1 by omega]
        omega
    have := key (j - i - 1).toNat (by omega)
    rw [show i + 1 + (((j - i - 1).toNat : Nat) : Int) = j by omega] at this
    exact this
end TK
end
