/-! The reference compares; its stack of what is open. -/
/-- a FACT without not and brackets -/
noncomputable def cmpV (S P N : Nat → Int32) (k c : Nat) (o : List Int32) : sR :=
  match sumV S P N k c o with
  | .inl e => .inl e
  | .inr y => if S y.1 < 10 ∨ 14 < S y.1 then .inl (fl 0 (P y.1)) else if y.2.1 = 60 then .inl (fl 3 (P y.1)) else (match sumV S P N (y.1 + 1) (y.2.1 + 1) y.2.2 with
    | .inl e => .inl e
    | .inr z => .inr (z.1, z.2.1, z.2.2 ++ [S y.1]))
theorem tst_cmp {S P N : Nat → Int32} {k c : Nat} {o q : List Int32} (h : ¬ (S k = 22 ∨ S k = 4)) : tst S P N (true, q, k, c, o) = (match cmpV S P N k c o with
    | .inl e => .inr (.inl e)
    | .inr z => .inl (false, (stl 3 q z.2.2).1, z.1, z.2.1, (stl 3 q z.2.2).2)) := by
  unfold tst cmpV
  dsimp only
  rw [if_pos rfl, if_neg h]
  cases sumV S P N k c o with
  | inl e => rfl
  | inr y =>
    dsimp only
    by_cases c1 : S y.1 < 10 ∨ 14 < S y.1
    · rw [if_pos c1, if_pos c1]
    · rw [if_neg c1, if_neg c1]
      by_cases c2 : y.2.1 = 60
      · rw [if_pos c2, if_pos c2]
      · rw [if_neg c2, if_neg c2]
        cases sumV S P N (y.1 + 1) (y.2.1 + 1) y.2.2 with
        | inl e => rfl
        | inr z => rfl
/-- a sign on the reference's stack -/
noncomputable def ro (x : Int32) : Int32 := if x = 22 then 11 else if x = 4 then 91 else if x = 21 then 12 else if x = 20 then 13 else 0
noncomputable def okq (q : List Int32) : Prop := ∀ x, x ∈ q → x = 22 ∨ x = 4 ∨ x = 21 ∨ x = 20
noncomputable def STK : List Int32 → (Nat → Int32) → Prop
  | [], _ => True
  | x :: q, f => f q.length = ro x ∧ STK q f
theorem STK.upd {v : Int32} {n : Nat} {f : Nat → Int32} : ∀ {q : List Int32}, q.length ≤ n → STK q f → STK q (upd f n v) := by
  intro q
  induction q with
  | nil => intro _ _; exact trivial
  | cons x q ih =>
    intro h g
    have hl : q.length + 1 ≤ n := h
    exact ⟨by rw [updI_n (by omega)]; exact g.1, ih (by omega) g.2⟩
/-- a TEST is read -/
noncomputable def RTs (G : wS) (S P N : Nat → Int32) (E : Nat → Nat) (K t k c : Nat) (o q : List Int32) (s : wS) : Prop := RLw G S P N E K t k c o s ∧ s.1 152 20 = Int32.ofNat q.length ∧ STK q (s.1 160) ∧ (s.1 152 17).toInt = deep q ∧ okq q ∧ o.length + q.length ≤ k
section RCM
variable {G : wS} {S P N : Nat → Int32} {E : Nat → Nat} {K t k c : Nat} {o q : List Int32} {s : wS}
theorem deep_le : ∀ {q : List Int32}, deep q ≤ q.length := by
  intro q
  induction q with
  | nil => exact Nat.le_refl _
  | cons x q ih =>
    show (if x = 22 ∨ x = 4 then 1 else 0) + deep q ≤ q.length + 1
    by_cases c : x = 22 ∨ x = 4
    · rw [if_pos c]; omega
    · rw [if_neg c]; omega
/-- frames that leave the stack alone -/
theorem RTs.go {s' : wS} (g : RTs G S P N E K t k c o q s) {k' c' : Nat} {o' : List Int32} (h : RLw G S P N E K t k' c' o' s') (h20 : s'.1 152 20 = s.1 152 20) (h160 : s'.1 160 = s.1 160) (h17 : s'.1 152 17 = s.1 152 17) (hl : o'.length + q.length ≤ k') : RTs G S P N E K t k' c' o' q s' := by
  obtain ⟨g1, g2, g3, g4, g5, g6⟩ := g
  exact ⟨h, by rw [h20]; exact g2, by rw [h160]; exact g3, by rw [h17]; exact g4, g5, hl⟩
/-- what the reading of TESTS writes -/
noncomputable def bLU (t k b : Nat) : Bool := bLT t k b || (Nat.beq k 160 || (Nat.beq k 152 && (Nat.beq b 17 || Nat.beq b 20)))
theorem bLT_le_bLU {t : Nat} : ∀ k b, bLT t k b = true → bLU t k b = true := fun k b h => by unfold bLU; rw [h]; rfl
theorem bLU_p {t k b : Nat} (h : k = 154 ∨ (k = 155 ∧ b = t) ∨ k = 160 ∨ (k = 152 ∧ (b = 12 ∨ b = 13 ∨ b = 14 ∨ b = 16 ∨ b = 17 ∨ b = 20))) : bLU t k b = true := by
  simp only [bLU, bLT, Bool.or_eq_true, Bool.and_eq_true, Nat.beq_eq]
  omega
/-- sums leave the stack alone -/
theorem RTs.lt {s' : wS} (g : RTs G S P N E K t k c o q s) (a : wA (bLT t) s s') {k' c' : Nat} {o' : List Int32} (h : RLw G S P N E K t k' c' o' s') (hl : o'.length + q.length ≤ k') : RTs G S P N E K t k' c' o' q s' :=
  g.go h (a 152 20 rfl) (funext fun b => a 160 b rfl) (a 152 17 rfl) hl
theorem bsg_10 (x d : Int32) : (bsg x d = 10 ∨ bsg x d = 11) ↔ x = 60 := by
  unfold bsg
  constructor
  · repeat' (first | (rintro (q | q) <;> exact absurd q (by decide)) | (intro _; assumption) | split)
  · intro q
    subst q
    by_cases h : d = 61
    · right; rw [if_neg (by decide), if_neg (by decide), if_neg (by decide), if_neg (by decide), if_neg (by decide), if_pos rfl, if_pos h]
    · left; rw [if_neg (by decide), if_neg (by decide), if_neg (by decide), if_neg (by decide), if_neg (by decide), if_pos rfl, if_neg h]
theorem bsg_11 (x d : Int32) : bsg x d = 11 ↔ x = 60 ∧ d = 61 := by
  unfold bsg
  constructor
  · repeat' (first | (intro q; exact absurd q (by decide)) | (intro _; exact ⟨by assumption, by assumption⟩) | split)
  · rintro ⟨rfl, rfl⟩; rfl
theorem bsg_12 (x d : Int32) : bsg x d = 12 ↔ x = 61 := by
  unfold bsg
  constructor
  · repeat' (first | (intro q; exact absurd q (by decide)) | (intro _; assumption) | split)
  · intro q; subst q; rfl
theorem bsg_13 (x d : Int32) : bsg x d = 13 ↔ x = 62 ∧ d = 61 := by
  unfold bsg
  constructor
  · repeat' (first | (intro q; exact absurd q (by decide)) | (intro _; exact ⟨by assumption, by assumption⟩) | split)
  · rintro ⟨rfl, rfl⟩; rfl
theorem bsg_14 (x d : Int32) : bsg x d = 14 ↔ x = 62 ∧ ¬ d = 61 := by
  unfold bsg
  constructor
  · repeat' (first | (intro q; exact absurd q (by decide)) | (intro _; exact ⟨by assumption, by assumption⟩) | split)
  · rintro ⟨rfl, h⟩
    rw [if_neg (by decide), if_neg (by decide), if_neg (by decide), if_neg (by decide), if_neg (by decide), if_neg (by decide), if_neg (by decide), if_pos rfl, if_neg h]
/-- a sign of comparing, by its bytes -/
theorem cmp_S (tk : TOKS G S P N E K) (hk : k ≤ K) : (seen G P K k = 60 ∨ seen G P K k = 61 ∨ seen G P K k = 62) ↔ ¬ (S k < 10 ∨ 14 < S k) := by
  have e10 : (10 : Int32).toInt = 10 := rfl
  have e14 : (14 : Int32).toInt = 14 := rfl
  have n : ∀ x : Int32, ¬ (x < 10 ∨ 14 < x) ↔ (10 ≤ x.toInt ∧ x.toInt ≤ 14) := fun x => by
    constructor
    · intro q
      have a := t_ge (fun e => q (Or.inl e))
      have b := t_ge (fun e => q (Or.inr e))
      omega
    · rintro ⟨a, b⟩ (q | q)
      · have := t_lt q; omega
      · have := t_lt q; omega
  rw [n]
  unfold seen
  by_cases hkK : k < K
  · rw [if_pos hkK]
    obtain ⟨-, ⟨-, w | w | w⟩, -⟩ := tk.1 k hkK
    · have a := t_ge w.1.1
      rw [show (97 : Int32).toInt = 97 from rfl] at a
      constructor
      · intro q
        exfalso
        rcases q with q | q | q <;> rw [q] at a <;> exact absurd a (by decide)
      · intro q
        exfalso
        rcases WS_ge w.2.2.2 with x | x
        · rw [x, show (1 : Int32).toInt = 1 from rfl] at q; omega
        · omega
    · have a := t_ge w.1.1
      have b := t_ge w.1.2
      rw [show (57 : Int32).toInt = 57 from rfl] at b
      constructor
      · intro q
        exfalso
        rcases q with q | q | q <;> rw [q] at b <;> exact absurd b (by decide)
      · intro q
        exfalso
        rw [w.2.2.2.1, show (2 : Int32).toInt = 2 from rfl] at q
        omega
    · rw [w.2.2.2.2.1]
      generalize bt G (P k).toNatClampNeg = x
      generalize bt G ((P k).toNatClampNeg + 1) = d
      constructor
      · rintro (q | q | q)
        · rcases (bsg_10 x d).2 q with r | r <;> rw [r] <;> decide
        · rw [(bsg_12 x d).2 q]; decide
        · by_cases hd : d = 61
          · rw [(bsg_13 x d).2 ⟨q, hd⟩]; decide
          · rw [(bsg_14 x d).2 ⟨q, hd⟩]; decide
      · intro q
        have c5 : (bsg x d).toInt = 10 ∨ (bsg x d).toInt = 11 ∨ (bsg x d).toInt = 12 ∨ (bsg x d).toInt = 13 ∨ (bsg x d).toInt = 14 := by omega
        rcases c5 with r | r | r | r | r
        · exact Or.inl ((bsg_10 x d).1 (Or.inl (Int32.toInt_inj.1 r)))
        · exact Or.inl ((bsg_10 x d).1 (Or.inr (Int32.toInt_inj.1 r)))
        · exact Or.inr (Or.inl ((bsg_12 x d).1 (Int32.toInt_inj.1 r)))
        · exact Or.inr (Or.inr ((bsg_13 x d).1 (Int32.toInt_inj.1 r)).1)
        · exact Or.inr (Or.inr ((bsg_14 x d).1 (Int32.toInt_inj.1 r)).1)
  · obtain rfl : k = K := by omega
    rw [if_neg hkK, tk.2.2.1, t_i0]
    constructor
    · intro q; rcases q with q | q | q <;> exact absurd q (by decide)
    · intro q; omega
/-- behind a sign of comparing: which of the three bytes, and whether = stands behind it -/
theorem cmp_step (g : RLw G S P N E K t k c o s) (tk : TOKS G S P N E K) (hn : s.1 152 12 = P k) (hs : ¬ (S k < 10 ∨ 14 < S k)) : k < K ∧ ∃ (x3 : Int32) (s' : wS), wX11_compare_j44 (seen G P K k) (P k) s = wX11_compare_j105 (seen G P K k) (P k) x3 s' ∧ RLw G S P N E K t (k + 1) c o s' ∧ wA (bLT t) s s' ∧ ((S k = 10 ∧ seen G P K k = 60 ∧ x3 = 0) ∨ (S k = 11 ∧ seen G P K k = 60 ∧ x3 = 1) ∨ (S k = 12 ∧ seen G P K k = 61 ∧ x3 = 0) ∨ (S k = 13 ∧ seen G P K k = 62 ∧ x3 = 1) ∨ (S k = 14 ∧ seen G P K k = 62 ∧ x3 = 0)) := by
  have p := g.1.p0 tk
  have hT := g.1.1.2.2.1
  have a := t_ge (fun e => hs (Or.inl e))
  have b := t_ge (fun e => hs (Or.inr e))
  rw [show (10 : Int32).toInt = 10 from rfl] at a
  rw [show (14 : Int32).toInt = 14 from rfl] at b
  have hpc := t_cln p.1
  rcases tk.kind g.1.2.2.2 with w | ⟨hk, w0, w | w | w⟩
  · rw [w.2.1, t_i0] at a; omega
  · exfalso
    rcases WS_ge w.2.2.2 with x | x
    · rw [x, show (1 : Int32).toInt = 1 from rfl] at a; omega
    · omega
  · exfalso
    rw [w.2.2.2.1, show (2 : Int32).toInt = 2 from rfl] at a; omega
  · refine ⟨hk, ?_⟩
    obtain ⟨w1, w2, w3, w4, w5, w6⟩ := w
    have sn : seen G P K k = bt G (P k).toNatClampNeg := by unfold seen; rw [if_pos hk]
    have hle := (tk.1 k hk).2.1.le
    have n1 : (P k + 1).toInt = (P k).toInt + 1 := t_p1 p.1 (by omega)
    have n1n : (P k + 1).toNatClampNeg = (P k).toNatClampNeg + 1 := by unfold Int32.toNatClampNeg; omega
    have one : ¬ (S k = 11 ∨ S k = 13) → RLw G S P N E K t (k + 1) c o (nxt s (P k + 1)) := fun h => by
      rw [if_neg h] at w6
      exact ⟨g.1.behind tk hk (Int32.toInt_inj.1 (by rw [n1, t_on (by omega)]; omega)), g.2.nx⟩
    have two : (S k = 11 ∨ S k = 13) → RLw G S P N E K t (k + 1) c o (nxt (nxt s (P k + 1)) (P k + 1 + 1)) := fun h => by
      rw [if_pos h] at w6
      have e : nxt (nxt s (P k + 1)) (P k + 1 + 1) = nxt s (P k + 1 + 1) := wup_wup
      rw [e]
      exact ⟨g.1.behind tk hk (Int32.toInt_inj.1 (by rw [t_p1 (by omega) (by omega), n1, t_on (by omega)]; omega)), g.2.nx⟩
    have A1 : wA (bLT t) s (nxt s (P k + 1)) := wA_I (bLT_p (by omega))
    have A2 : wA (bLT t) s (nxt (nxt s (P k + 1)) (P k + 1 + 1)) := A1.trans (wA_I (bLT_p (by omega)))
    have j44 : wX11_compare_j44 (seen G P K k) (P k) s = if seen G P K k = 61 then (wX11_compare_j89 (seen G P K k) (P k) (nxt s (P k + 1))) else (if P k + 1 < G.1 1 1 then ((wldI (nxt s (P k + 1)) 153 400 (P k + 1)).bind fun t29 => if t29 = 61 then (wX11_compare_j90 (seen G P K k) (P k) 1 (nxt s (P k + 1))) else (wX11_compare_j89 (seen G P K k) (P k) (nxt s (P k + 1)))) else (wX11_compare_j89 (seen G P K k) (P k) (nxt s (P k + 1)))) := by
      unfold wX11_compare_j44
      rw [hn]
      show (if seen G P K k = 61 then (wX11_compare_j89 (seen G P K k) (P k) (nxt s (P k + 1))) else (if ((nxt s (P k + 1)).1 152 12) < ((nxt s (P k + 1)).1 152 1) then ((wldI (nxt s (P k + 1)) 153 400 ((nxt s (P k + 1)).1 152 12)).bind fun t29 => if t29 = 61 then (wX11_compare_j90 (seen G P K k) (P k) 1 (nxt s (P k + 1))) else (wX11_compare_j89 (seen G P K k) (P k) (nxt s (P k + 1)))) else (wX11_compare_j89 (seen G P K k) (P k) (nxt s (P k + 1))))) = _
      rw [nx_n, (g.1.1.nx (v := P k + 1)).2.1]
    have j89 : ∀ x u, wX11_compare_j89 x (P k) u = wX11_compare_j105 x (P k) 0 u := fun x u => by
      unfold wX11_compare_j89 wX11_compare_j90
      rw [if_pos rfl]
    have j90 : ∀ x, wX11_compare_j90 x (P k) 1 (nxt s (P k + 1)) = wX11_compare_j105 x (P k) 1 (nxt (nxt s (P k + 1)) (P k + 1 + 1)) := fun x => by
      unfold wX11_compare_j90
      rw [if_neg (by decide), nx_n]
      rfl
    -- whether = stands behind
    have eq : ¬ seen G P K k = 61 → (bt G ((P k).toNatClampNeg + 1) = 61 → wX11_compare_j44 (seen G P K k) (P k) s = wX11_compare_j105 (seen G P K k) (P k) 1 (nxt (nxt s (P k + 1)) (P k + 1 + 1))) ∧ (¬ bt G ((P k).toNatClampNeg + 1) = 61 → wX11_compare_j44 (seen G P K k) (P k) s = wX11_compare_j105 (seen G P K k) (P k) 0 (nxt s (P k + 1))) := by
      intro h61
      rw [j44, if_neg h61]
      by_cases cT : P k + 1 < G.1 1 1
      · have hcT := t_lt cT
        rw [if_pos cT, wld_E (by omega) (by omega), t_sbe, n1n, (g.1.1.nx (v := P k + 1)).1]
        have hb := bt_eq (i := (P k).toNatClampNeg + 1) (c := 61) g.1.1.2.2.2 (by omega) (by decide) (by decide)
        constructor
        · intro q
          rw [if_pos (hb.1 q), j90]
        · intro q
          rw [if_neg (fun e => q (hb.2 e)), j89]
      · have hcT := t_ge cT
        rw [if_neg cT, j89]
        refine ⟨fun q => ?_, fun _ => rfl⟩
        have := bt_lt (G := G) (i := (P k).toNatClampNeg + 1) (by rw [q]; decide)
        omega
    have c5 : (S k).toInt = 10 ∨ (S k).toInt = 11 ∨ (S k).toInt = 12 ∨ (S k).toInt = 13 ∨ (S k).toInt = 14 := by omega
    rcases c5 with r | r | r | r | r
    · have r' : S k = 10 := Int32.toInt_inj.1 r
      have x60 : bt G (P k).toNatClampNeg = 60 := (bsg_10 _ _).1 (Or.inl (w5.symm.trans r'))
      have n61 : ¬ bt G ((P k).toNatClampNeg + 1) = 61 := fun q => by
        have := (bsg_11 _ _).2 ⟨x60, q⟩
        rw [← w5, r'] at this
        exact absurd this (by decide)
      have h61 : ¬ seen G P K k = 61 := by rw [sn, x60]; decide
      exact ⟨0, _, (eq h61).2 n61, one (by rw [r']; decide), A1, Or.inl ⟨r', by rw [sn, x60], rfl⟩⟩
    · have r' : S k = 11 := Int32.toInt_inj.1 r
      obtain ⟨x60, y61⟩ := (bsg_11 _ _).1 (w5.symm.trans r')
      have h61 : ¬ seen G P K k = 61 := by rw [sn, x60]; decide
      exact ⟨1, _, (eq h61).1 y61, two (Or.inl r'), A2, Or.inr (Or.inl ⟨r', by rw [sn, x60], rfl⟩)⟩
    · have r' : S k = 12 := Int32.toInt_inj.1 r
      have x61 : bt G (P k).toNatClampNeg = 61 := (bsg_12 _ _).1 (w5.symm.trans r')
      have h61 : seen G P K k = 61 := by rw [sn, x61]
      refine ⟨0, _, ?_, one (by rw [r']; decide), A1, Or.inr (Or.inr (Or.inl ⟨r', h61, rfl⟩))⟩
      rw [j44, if_pos h61, j89]
    · have r' : S k = 13 := Int32.toInt_inj.1 r
      obtain ⟨x60, y61⟩ := (bsg_13 _ _).1 (w5.symm.trans r')
      have h61 : ¬ seen G P K k = 61 := by rw [sn, x60]; decide
      exact ⟨1, _, (eq h61).1 y61, two (Or.inr r'), A2, Or.inr (Or.inr (Or.inr (Or.inl ⟨r', by rw [sn, x60], rfl⟩)))⟩
    · have r' : S k = 14 := Int32.toInt_inj.1 r
      obtain ⟨x60, y61⟩ := (bsg_14 _ _).1 (w5.symm.trans r')
      have h61 : ¬ seen G P K k = 61 := by rw [sn, x60]; decide
      exact ⟨0, _, (eq h61).2 y61, one (by rw [r']; decide), A1, Or.inr (Or.inr (Or.inr (Or.inr ⟨r', by rw [sn, x60], rfl⟩)))⟩
theorem compare_E (ht : t < 6) (tk : TOKS G S P N E K) (g : RLw G S P N E K t k c o s) (hl : o.length ≤ k) : Tot (wX11_compare s) (fun q => (∃ e, cmpV S P N k c o = .inl e ∧ q.1 = 0 ∧ q.2.1 152 13 = e) ∨ (∃ k' c' o', cmpV S P N k c o = .inr (k', c', o') ∧ q.1 = 1 ∧ RLw G S P N E K t k' c' o' q.2 ∧ wA (bLT t) s q.2 ∧ (k < k' ∧ o'.length + k ≤ o.length + k' ∧ o.length < o'.length))) := by
  have hK := tk.2.1
  have hT := g.1.1.2.2.1
  unfold wX11_compare
  refine t_bind (sum_E ht tk g hl) (fun q hq => ?_)
  obtain ⟨t1, s2⟩ := q
  rcases hq with ⟨e, h1, q0, qe⟩ | ⟨k1, c1, o1, h1, q0, g2, a2, ⟨b1, b2, b3⟩⟩
  · dsimp only at q0 qe ⊢
    rw [if_pos q0]
    refine t_some (Or.inl ⟨e, ?_, rfl, qe⟩)
    unfold cmpV
    rw [sumV_eq h1]
  · dsimp only at q0 g2 a2 ⊢
    rw [if_neg (by rw [q0]; decide)]
    have hk1 := g2.1.2.2.2
    rw [see_R g2.1 tk, t_sbe]
    dsimp only
    have g3 : RLw G S P N E K t k1 c1 o1 (nxt s2 (P k1)) := ⟨g2.1.at tk, g2.2.nx⟩
    have a3 : wA (bLT t) s (nxt s2 (P k1)) := a2.trans (wA_I (bLT_p (by omega)))
    rw [nx_n]
    have cs := cmp_S tk hk1
    by_cases hs : S k1 < 10 ∨ 14 < S k1
    · have n : ∀ v : Int32, v = 60 ∨ v = 61 ∨ v = 62 → ¬ seen G P K k1 = v := fun v hv q => by
        rw [← q] at hv
        exact cs.1 hv hs
      rw [if_neg (n 60 (Or.inl rfl)), if_neg (n 61 (Or.inr (Or.inl rfl))), if_neg (n 62 (Or.inr (Or.inr rfl))), fails_R g3.1, t_sbe]
      dsimp only
      refine t_bind (t_rtZ (v := 0) (Or.inl rfl)) (fun t10 h10 => t_some (Or.inl ⟨fl 0 (P k1), ?_, h10, wup_same⟩))
      unfold cmpV
      rw [sumV_eq h1]
      dsimp only
      rw [if_pos hs]
    · obtain ⟨hkK, x3, s', e1, g4, a4, hx⟩ := cmp_step g3 tk nx_n hs
      have all : (if seen G P K k1 = 60 then wX11_compare_j44 (seen G P K k1) (P k1) (nxt s2 (P k1)) else if seen G P K k1 = 61 then wX11_compare_j44 (seen G P K k1) (P k1) (nxt s2 (P k1)) else if seen G P K k1 = 62 then wX11_compare_j44 (seen G P K k1) (P k1) (nxt s2 (P k1)) else ((wX11_fails 0 (P k1) (nxt s2 (P k1))).bind fun (t33, s34) => (wrtZ t33).bind fun t36 => some (t36, s34))) = wX11_compare_j44 (seen G P K k1) (P k1) (nxt s2 (P k1)) := by
        rcases cs.2 hs with q | q | q
        · rw [if_pos q]
        · rw [if_neg (by rw [q]; decide), if_pos q]
        · rw [if_neg (by rw [q]; decide), if_neg (by rw [q]; decide), if_pos q]
      rw [all, e1]
      unfold wX11_compare_j105
      rcases makes_E (p := P k1) g4 with ⟨c6, m1⟩ | ⟨c6, s'', m1, m2, -, -, m4⟩
      · rw [m1, t_sbe]
        dsimp only
        rw [if_pos rfl]
        refine t_some (Or.inl ⟨fl 3 (P k1), ?_, rfl, wup_same⟩)
        unfold cmpV
        rw [sumV_eq h1]
        dsimp only
        rw [if_neg hs, if_pos c6]
      · rw [m1, t_sbe]
        dsimp only
        rw [if_neg (by decide)]
        have fin : ∀ y : Int32, 6 + y + 16 * 0 = rc (S k1) → Tot (wX11_compare_j152 y s'') (fun q => (∃ e, cmpV S P N k c o = .inl e ∧ q.1 = 0 ∧ q.2.1 152 13 = e) ∨ (∃ k' c' o', cmpV S P N k c o = .inr (k', c', o') ∧ q.1 = 1 ∧ RLw G S P N E K t k' c' o' q.2 ∧ wA (bLT t) s q.2 ∧ (k < k' ∧ o'.length + k ≤ o.length + k' ∧ o.length < o'.length))) := by
          intro y hy
          unfold wX11_compare_j152
          refine t_bind (sum_E ht tk m2 (by omega)) (fun q hq => ?_)
          obtain ⟨t18, s19⟩ := q
          rcases hq with ⟨e, h2, q0, qe⟩ | ⟨k2, c2, o2, h2, q0, g5, a5, ⟨d1, d2, d3⟩⟩
          · dsimp only at q0 qe ⊢
            rw [if_pos q0]
            refine t_some (Or.inl ⟨e, ?_, rfl, qe⟩)
            unfold cmpV
            rw [sumV_eq h1]
            dsimp only
            rw [if_neg hs, if_neg (by omega), sumV_eq h2]
          · dsimp only at q0 g5 a5 ⊢
            rw [if_neg (by rw [q0]; decide)]
            have hk2 := g5.1.2.2.2
            refine t_bind (g5.puts ht (by omega) hy) (fun s23 h23 => t_some (Or.inr ⟨k2, c2, o2 ++ [S k1], ?_, rfl, h23.1, (((a3.trans a4).trans m4).trans a5).trans h23.2, ⟨by omega, by rw [List.length_append]; show o2.length + 1 + k ≤ _; omega, by rw [List.length_append]; show _ < o2.length + 1; omega⟩⟩))
            unfold cmpV
            rw [sumV_eq h1]
            dsimp only
            rw [if_neg hs, if_neg (by omega), sumV_eq h2]
        rcases hx with ⟨x1, x2, rfl⟩ | ⟨x1, x2, rfl⟩ | ⟨x1, x2, rfl⟩ | ⟨x1, x2, rfl⟩ | ⟨x1, x2, rfl⟩
        · rw [if_pos x2, if_pos rfl]; exact fin 0 (by rw [x1]; decide)
        · rw [if_pos x2, if_neg (by decide)]; exact fin 1 (by rw [x1]; decide)
        · rw [if_neg (by rw [x2]; decide), if_pos x2]; exact fin 2 (by rw [x1]; decide)
        · rw [if_neg (by rw [x2]; decide), if_neg (by rw [x2]; decide), if_neg (by decide)]; exact fin 3 (by rw [x1]; decide)
        · rw [if_neg (by rw [x2]; decide), if_neg (by rw [x2]; decide), if_pos rfl]; exact fin 4 (by rw [x1]; decide)
/-- what waits on the stack is put -/
theorem strength_E {x : Int32} (h : x = 22 ∨ x = 4 ∨ x = 21 ∨ x = 20) : wX11_strength (ro x) s = some (Int32.ofNat (stC x)) := by
  unfold wX11_strength
  rcases h with rfl | rfl | rfl | rfl <;> rfl
theorem rc_ro {x : Int32} (h : x = 22 ∨ x = 21 ∨ x = 20) : ro x + 16 * 0 = rc x := by
  rcases h with rfl | rfl | rfl <;> decide
theorem settles_h0_E {m : Nat} {x1 : Int32} (ht : t < 6) (hm1 : 1 ≤ m) (hm3 : m ≤ 3) (hx : x1.toInt = m) (tk : TOKS G S P N E K) : ∀ (n : Nat) {o q : List Int32} {s : wS}, RTs G S P N E K t k c o q s → q.length < n → Tot (wX11_settles_h0 x1 n s) (fun s' => RTs G S P N E K t k c (stl m q o).2 (stl m q o).1 s' ∧ wA (bLU t) s s' ∧ s'.1 152 12 = s.1 152 12) := by
  intro n
  induction n with
  | zero => intro o q s _ hm; exact absurd hm (by omega)
  | succ n ih =>
    intro o q s g hn
    obtain ⟨g1, g2, g3, g4, g5, g6⟩ := id g
    have hk := g1.1.2.2.2
    have hK := tk.2.1
    have hT := g1.1.1.2.2.1
    have el : (Int32.ofNat q.length).toInt = q.length := t_on (by omega)
    rw [wX11_settles_h0, g2]
    cases q with
    | nil =>
      rw [if_neg (fun c => by have := t_lt c; rw [t_i0, el] at this; exact absurd this (by show ¬ (0 : Int) < (0 : Nat); omega))]
      exact t_some ⟨g, wA.refl, rfl⟩
    | cons x q =>
      have ql : (x :: q).length = q.length + 1 := rfl
      have hx4 := g5 x (List.mem_cons_self)
      rw [ql] at el g6 hn
      have e1 : (Int32.ofNat (q.length + 1) - 1).toInt = q.length := by
        rw [t_sub (by rw [show (1 : Int32).toInt = 1 from rfl]; omega) (by rw [show (1 : Int32).toInt = 1 from rfl]; omega), show (1 : Int32).toInt = 1 from rfl]
        omega
      have e1n : (Int32.ofNat (q.length + 1) - 1).toNatClampNeg = q.length := by unfold Int32.toNatClampNeg; omega
      have e1e : Int32.ofNat (q.length + 1) - 1 = Int32.ofNat q.length := Int32.toInt_inj.1 (by rw [e1, t_on (by omega)])
      rw [ql, if_pos (Int32.lt_iff_toInt_lt.2 (by rw [t_i0]; omega)), wld_E (by omega) (by omega), t_sbe, e1n, g3.1, strength_E hx4, t_sbe]
      have es : (Int32.ofNat (stC x)).toInt = stC x := t_on (by unfold stC; repeat' (first | decide | split))
      by_cases cs : Int32.ofNat (stC x) < x1
      · have := t_lt cs
        rw [es, hx] at this
        rw [if_pos cs, stl_stop (by omega)]
        exact t_some ⟨g, wA.refl, rfl⟩
      · have hcs := t_ge cs
        rw [es, hx] at hcs
        rw [if_neg cs, e1e]
        have hx3 : x = 22 ∨ x = 21 ∨ x = 20 := by
          rcases hx4 with r | r | r | r
          · exact Or.inl r
          · rw [r, show stC 4 = 0 from rfl] at hcs; omega
          · exact Or.inr (Or.inl r)
          · exact Or.inr (Or.inr r)
        show Tot ((wldI (wupI s 152 20 (Int32.ofNat q.length)) 160 400 ((wupI s 152 20 (Int32.ofNat q.length)).1 152 20)).bind _) _
        rw [wup_same, wld_E (by rw [t_on (by omega)]; omega) (by rw [t_on (by omega)]; omega), t_sbe, t_nc (by omega), wupI_n (by decide), g3.1]
        have h6 : RLw G S P N E K t k c o (wupI s 152 20 (Int32.ofNat q.length)) := ⟨g1.1.go (wupI_n (by decide)) (wup_nb (by decide)) (wup_nb (by decide)) (wup_nb (by decide)), g1.2.go (wup_nb (by decide)) (wup_nb (by decide)) (by rw [wupI_n (by decide)]) (wupI_n (by decide))⟩
        have p12 : (wupI s 152 20 (Int32.ofNat q.length)).1 152 12 = s.1 152 12 := wup_nb (by decide)
        obtain ⟨s9, e9, h9, a9⟩ := h6.puts ht (v := x) (x1 := ro x) (x2 := 0) (by omega) (rc_ro hx3)
        rw [e9, t_sbe]
        have z20 : s9.1 152 20 = Int32.ofNat q.length := by rw [a9 152 20 rfl, wup_same]
        have z160 : s9.1 160 = s.1 160 := by
          have : s9.1 160 = (wupI s 152 20 (Int32.ofNat q.length)).1 160 := funext fun b => a9 160 b rfl
          rw [this, wupI_n (by decide)]
        have z17 : s9.1 152 17 = s.1 152 17 := by rw [a9 152 17 rfl, wup_nb (by decide)]
        have z12 : s9.1 152 12 = s.1 152 12 := by
          obtain ⟨s9', e9', -, a9'⟩ := puts_E ht h6.2 (x1 := ro x) (x2 := 0) (v := x) (by omega) (rc_ro hx3)
          rw [e9] at e9'
          rw [Option.some.inj e9', a9' 152 12 rfl, p12]
        rw [z20, wld_E (by rw [t_on (by omega)]; omega) (by rw [t_on (by omega)]; omega), t_sbe, t_nc (by omega), z160, g3.1]
        have a69 : wA (bLU t) s s9 := (wA_I (bLU_p (by omega))).trans (a9.mono bLT_le_bLU)
        have lo : (o ++ [x]).length = o.length + 1 := by rw [List.length_append]; rfl
        have st : stl m (x :: q) o = stl m q (o ++ [x]) := by
          show (if m ≤ stC x then stl m q (o ++ [x]) else (x :: q, o)) = _
          rw [if_pos (by omega)]
        rw [st]
        by_cases c22 : x = 22
        · rw [if_pos (by rw [c22]; decide)]
          have d1 : deep (x :: q) = 1 + deep q := by
            show (if x = 22 ∨ x = 4 then 1 else 0) + deep q = _
            rw [if_pos (Or.inl c22)]
          rw [d1] at g4
          have dl := deep_le (q := q)
          show Tot (wX11_settles_h0 x1 n (wupI s9 152 17 (s9.1 152 17 - 1))) _
          have e17 : (s9.1 152 17 - 1).toInt = deep q := by
            rw [z17, t_sub (by rw [show (1 : Int32).toInt = 1 from rfl]; omega) (by rw [show (1 : Int32).toInt = 1 from rfl]; omega), show (1 : Int32).toInt = 1 from rfl]
            omega
          refine t_mono (ih (q := q) (o := o ++ [x]) ⟨⟨h9.1.go (wupI_n (by decide)) (wup_nb (by decide)) (wup_nb (by decide)) (wup_nb (by decide)), h9.2.go (wup_nb (by decide)) (wup_nb (by decide)) (by rw [wupI_n (by decide)]) (wupI_n (by decide))⟩, ?_, ?_, ?_, fun y hy => g5 y (List.mem_cons_of_mem _ hy), by omega⟩ (by omega)) (fun s' hs => ⟨hs.1, (a69.trans (wA_I (bLU_p (by omega)))).trans hs.2.1, ?_⟩)
          · rw [wup_nb (by decide)]; exact z20
          · rw [wupI_n (by decide), z160]; exact g3.2
          · rw [wup_same]; exact e17
          · rw [hs.2.2, wup_nb (by decide)]; exact z12
        · have nr : ¬ ro x = 11 := by
            rcases hx3 with r | r | r
            · exact absurd r c22
            · rw [r]; decide
            · rw [r]; decide
          rw [if_neg nr]
          have d1 : deep (x :: q) = deep q := by
            show (if x = 22 ∨ x = 4 then 1 else 0) + deep q = _
            rw [if_neg (fun e => by rcases hx3 with r | r | r <;> rw [r] at e <;> first | exact c22 r | exact absurd e (by decide)), Nat.zero_add]
          rw [d1] at g4
          refine t_mono (ih (q := q) (o := o ++ [x]) ⟨h9, z20, by rw [z160]; exact g3.2, by rw [z17]; exact g4, fun y hy => g5 y (List.mem_cons_of_mem _ hy), by omega⟩ (by omega)) (fun s' hs => ⟨hs.1, a69.trans hs.2.1, by rw [hs.2.2]; exact z12⟩)
theorem settles_E {m : Nat} {x1 : Int32} (ht : t < 6) (hm1 : 1 ≤ m) (hm3 : m ≤ 3) (hx : x1.toInt = m) (tk : TOKS G S P N E K) (g : RTs G S P N E K t k c o q s) : Tot (wX11_settles x1 s) (fun s' => RTs G S P N E K t k c (stl m q o).2 (stl m q o).1 s' ∧ wA (bLU t) s s' ∧ s'.1 152 12 = s.1 152 12) := by
  have hk := g.1.1.2.2.2
  have hK := tk.2.1
  have hT := g.1.1.1.2.2.1
  have gl := g.2.2.2.2.2
  unfold wX11_settles
  refine t_bind (settles_h0_E ht hm1 hm3 hx tk wFuel g (by
    have e : wFuel = 1099511627776 := rfl
    omega)) (fun s' hs => t_some hs)
end RCM
