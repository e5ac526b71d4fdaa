/-! The reference reads a COURT's LINES, its whole text. -/
section CRF
variable {G : wS} {S P N : Nat → Int32} {E : Nat → Nat} {K k : Nat} {s : wS} {h : Int32} {r m : Nat} {R M : Nat → Int32}
theorem RS.p0 (g : RS G S P N E K k s) (tk : TOKS G S P N E K) : 0 ≤ (P k).toInt ∧ (P k).toInt ≤ 400 := by
  have hT := g.1.2.2.1
  have := tk.p0 hT.1 g.2.2.2
  omega
theorem RS.at (g : RS G S P N E K k s) (tk : TOKS G S P N E K) : RS G S P N E K k (nxt s (P k)) := by
  have p := g.p0 tk
  obtain ⟨g1, ⟨n, g2, g3⟩, g4, gk⟩ := g
  have hp := g3.2.1
  have hb := g3.2.2.2
  refine ⟨g1.nx, ⟨(P k).toNatClampNeg, by rw [nx_n, t_cln p.1], Nat.le_refl _, hp, fun j h1 h2 => absurd h1 (by omega), hb⟩, by rw [wup_nb (by decide)]; exact g4, gk⟩
theorem isWord_R {c : Int64} {z : Nat} (g : RS G S P N E K k s) (tk : TOKS G S P N E K) (hc : wpk z = c) (hz : z < 16) : wX11_isWord c s = some (if S k = Int32.ofNat (15 + z) then 1 else 0, nxt s (P k)) := by
  have p := g.p0 tk
  obtain ⟨g1, ⟨n, g2, g3⟩, g4, gk⟩ := g
  rw [← hc]
  exact isWord_E hz g1 tk gk g2 g3 p.1
theorem RS.behind (g : RS G S P N E K k s) (tk : TOKS G S P N E K) (hk : k < K) {v : Int32} (hv : v = Int32.ofNat (E k)) : RS G S P N E K (k + 1) (nxt s v) := by
  obtain ⟨g1, ⟨n, g2, g3⟩, g4, gk⟩ := g
  have hle := (tk.1 k hk).2.1.le
  have hT := g1.2.2.1
  refine ⟨g1.nx, ⟨E k, by rw [nx_n, hv, t_on (by omega)], tk.sk (k := k + 1) (by omega)⟩, by rw [wup_nb (by decide)]; exact g4, by omega⟩
/-- a WORD is passed -/
theorem passWord_R (g : RS G S P N E K k s) (tk : TOKS G S P N E K) (h15 : 15 ≤ (S k).toInt) (hn : s.1 152 12 = P k) : k < K ∧ wX11_passWord s = some (nxt s (Int32.ofNat (E k))) := by
  have p := g.p0 tk
  obtain ⟨g1, ⟨n, g2, g3⟩, g4, gk⟩ := g
  obtain ⟨hl, hk⟩ := lt_S tk gk h15
  exact ⟨hk, passWord_E (p := (P k).toNatClampNeg) g1 (by rw [hn, t_cln p.1]) (tk.1 k hk).2.1 hl⟩
theorem bt_ge {i : Nat} : 0 ≤ (bt G i).toInt := by
  unfold bt
  by_cases c : (i : Int) < (G.1 1 1).toInt
  · rw [if_pos c]
    have e : (G.1 2 i &&& 255).toInt = ((G.1 2 i &&& 255).toBitVec).toInt := rfl
    have e2 : (G.1 2 i &&& 255).toBitVec = (G.1 2 i).toBitVec &&& 255#32 := rfl
    rw [e, e2, BitVec.toInt_eq_toNat_cond]
    have : ((G.1 2 i).toBitVec &&& 255#32).toNat ≤ 255 := by
      rw [BitVec.toNat_and]
      exact Nat.and_le_right
    rw [if_pos (by omega)]
    omega
  · rw [if_neg c]; decide
/-- a sign of one byte, by its byte -/
theorem byte_S {c g : Int32} (tk : TOKS G S P N E K) (hk : k < K) (hb : ∀ x d, bsg x d = g ↔ x = c) (g1 : 3 ≤ g.toInt) (g2 : g.toInt ≤ 14) (hl : c.toInt < 48 ∨ (57 < c.toInt ∧ c.toInt < 97)) : bt G (P k).toNatClampNeg = c ↔ S k = g := by
  have e1 : (1 : Int32).toInt = 1 := rfl
  have e2 : (2 : Int32).toInt = 2 := rfl
  obtain ⟨-, ⟨-, w | w | w⟩, -⟩ := tk.1 k hk
  · have a := t_ge w.1.1
    rw [show (97 : Int32).toInt = 97 from rfl] at a
    constructor
    · intro q; rw [q] at a; omega
    · intro q
      rcases WS_ge w.2.2.2 with x | x
      · rw [x] at q; rw [← q] at g1; omega
      · rw [q] at x; omega
  · have a := t_ge w.1.1
    have b := t_ge w.1.2
    rw [show (48 : Int32).toInt = 48 from rfl] at a
    rw [show (57 : Int32).toInt = 57 from rfl] at b
    constructor
    · intro q; rw [q] at a b; omega
    · intro q; rw [w.2.2.2.1] at q; rw [← q] at g1; omega
  · rw [w.2.2.2.2.1]
    exact (hb _ _).symm
theorem S_0 (tk : TOKS G S P N E K) (hk : k ≤ K) : S k = 0 ↔ k = K := by
  constructor
  · intro q
    rcases tk.kind hk with w | ⟨_, -, w | w | w⟩
    · exact w.1
    · rcases WS_ge w.2.2.2 with x | x
      · rw [x] at q; exact absurd q (by decide)
      · rw [q, t_i0] at x; omega
    · rw [w.2.2.2.1] at q; exact absurd q (by decide)
    · have := bsg_le (bt G (P k).toNatClampNeg) (bt G ((P k).toNatClampNeg + 1))
      rw [← w.2.2.2.2.1, q, t_i0] at this
      omega
  · intro q
    rw [q]
    exact tk.2.2.1
/-- what is seen -/
noncomputable def seen (G : wS) (P : Nat → Int32) (K k : Nat) : Int32 := if k < K then bt G (P k).toNatClampNeg else -1
theorem see_R (g : RS G S P N E K k s) (tk : TOKS G S P N E K) : wX11_see s = some (seen G P K k, nxt s (P k)) := by
  have p := g.p0 tk
  obtain ⟨g1, ⟨n, g2, g3⟩, g4, gk⟩ := g
  rw [see_E g1 g2 g3, t_oc p.1]
  have : ((((P k).toNatClampNeg : Nat) : Int) < (G.1 1 1).toInt) ↔ k < K := by
    rw [t_cln p.1]
    constructor
    · intro q
      by_cases c : k = K
      · rw [c, tk.2.2.2.1] at q; omega
      · omega
    · intro q
      have := (tk.1 k q).2.1.le.1
      rw [t_cln p.1] at this
      exact this
  unfold seen
  by_cases c : k < K
  · rw [if_pos (this.2 c), if_pos c]
  · rw [if_neg (fun q => c (this.1 q)), if_neg c]
theorem seen_S {c g : Int32} (tk : TOKS G S P N E K) (hk : k ≤ K) (hb : ∀ x d, bsg x d = g ↔ x = c) (g1 : 3 ≤ g.toInt) (g2 : g.toInt ≤ 14) (hl : (0 ≤ c.toInt ∧ c.toInt < 48) ∨ (57 < c.toInt ∧ c.toInt < 97)) : seen G P K k = c ↔ S k = g := by
  unfold seen
  by_cases q : k < K
  · rw [if_pos q]
    exact byte_S tk q hb g1 g2 (by omega)
  · obtain rfl : k = K := by omega
    rw [if_neg q, tk.2.2.1]
    constructor
    · intro e; rw [← e] at hl; have : (-1 : Int32).toInt = -1 := rfl; omega
    · intro e; rw [← e, t_i0] at g1; omega
theorem seen_n (tk : TOKS G S P N E K) (hk : k ≤ K) : seen G P K k = -1 ↔ S k = 0 := by
  rw [S_0 tk hk]
  unfold seen
  by_cases q : k < K
  · rw [if_pos q]
    constructor
    · intro e
      have := bt_ge (G := G) (i := (P k).toNatClampNeg)
      rw [e, show (-1 : Int32).toInt = -1 from rfl] at this
      omega
    · intro e; omega
  · rw [if_neg q]
    exact ⟨fun _ => by omega, fun _ => rfl⟩
theorem bsg_3 (x d : Int32) : bsg x d = 3 ↔ x = 59 := by
  unfold bsg
  constructor
  · repeat' (first | (intro q; exact absurd q (by decide)) | (intro _; assumption) | split)
  · intro q; subst q; rfl
/-- behind a sign of one byte -/
theorem one_R (g : RS G S P N E K k s) (tk : TOKS G S P N E K) (h3 : 3 ≤ (S k).toInt) (h14 : (S k).toInt ≤ 14) (h11 : ¬ S k = 11) (h13 : ¬ S k = 13) : k < K ∧ P k + 1 = Int32.ofNat (E k) := by
  have p := g.p0 tk
  have hT := g.1.2.2.1
  rcases tk.kind g.2.2.2 with w | ⟨hk, w0, w | w | w⟩
  · rw [w.2.1, t_i0] at h3; omega
  · rcases WS_ge w.2.2.2 with x | x
    · rw [x, show (1 : Int32).toInt = 1 from rfl] at h3; omega
    · omega
  · rw [w.2.2.2.1, show (2 : Int32).toInt = 2 from rfl] at h3; omega
  · have e := w.2.2.2.2.2
    rw [if_neg (fun q => q.elim h11 h13)] at e
    have hc := t_cln p.1
    refine ⟨hk, Int32.toInt_inj.1 ?_⟩
    rw [t_p1 p.1 (by omega), e, t_on (by omega)]
    omega
/-- what of a COURT was told -/
noncomputable def RT (h : Int32) (r m : Nat) (R M : Nat → Int32) (s : wS) : Prop := (s.1 152 7 = h ∧ s.1 152 8 = Int32.ofNat r ∧ s.1 152 9 = Int32.ofNat m) ∧ (s.1 158 = R ∧ s.1 159 = M) ∧ s.1 152 15 = 6 ∧ (r ≤ 8 ∧ m ≤ 8) ∧ (0 ≤ h.toInt ∧ h.toInt ≤ 8)
theorem RT.go {s s' : wS} (g : RT h r m R M s) (h7 : s'.1 152 7 = s.1 152 7) (h8 : s'.1 152 8 = s.1 152 8) (h9 : s'.1 152 9 = s.1 152 9) (h15 : s'.1 152 15 = s.1 152 15) (hR : s'.1 158 = s.1 158) (hM : s'.1 159 = s.1 159) : RT h r m R M s' := by
  unfold RT
  rw [h7, h8, h9, h15, hR, hM]
  exact g
theorem RT.nx {v : Int32} (g : RT h r m R M s) : RT h r m R M (nxt s v) := g.go (wup_nb (by decide)) (wup_nb (by decide)) (wup_nb (by decide)) (wup_nb (by decide)) (wupI_n (by decide)) (wupI_n (by decide))
/-- how many CLAUSES these are -/
noncomputable def LN (h : Int32) (r m : Nat) : Int := (if h = 0 then 0 else 1) + r + m
/-- what a LINE comes to -/
noncomputable def RL2 (G : wS) (S P N : Nat → Int32) (E : Nat → Nat) (K : Nat) (L : Int) (x : Int32 ⊕ cC) (q : Int32 × wS) : Prop := (∃ e, x = .inl e ∧ q.1 = 0 ∧ q.2.1 152 13 = e) ∨ (∃ c' : cC, x = .inr c' ∧ q.1 = 1 ∧ RS G S P N E K c'.1 q.2 ∧ RT c'.2.1 c'.2.2.1 c'.2.2.2.1 c'.2.2.2.2.1 c'.2.2.2.2.2 q.2 ∧ (q.2.1 152 18).toInt = L ∧ LN c'.2.1 c'.2.2.1 c'.2.2.2.1 = L)
theorem fails_R {c p : Int32} (g : RS G S P N E K k s) : wX11_fails c p s = some (0, wupI s 152 13 (fl c p)) := fails_E g.2.2.1
theorem courtLineHere_E {L : Int} (g : RS G S P N E K k s) (tk : TOKS G S P N E K) (rt : RT h r m R M s) (hL : (s.1 152 18).toInt = L) (hL2 : L = LN h r m + 1) (hw : S k = 15 ∨ S k = 17 ∨ S k = 18) : Tot (wX11_courtLineHere (P k) s) (fun q => RL2 G S P N E K L (ccl S P N k h r m R M) q) := by
  unfold wX11_courtLineHere ccl
  rw [isWord_R (c := 448546566771) (z := 0) g tk rfl (by decide), t_sbe]
  dsimp only
  have g1 := g.at tk
  have rt1 := rt.nx (v := P k)
  have e15 : Int32.ofNat (15 + 0) = 15 := rfl
  rw [e15]
  have full : Tot ((wX11_fails 4 (P k) (nxt s (P k))).bind fun (t10, s11) => (wrtZ t10).bind fun t13 => some (t13, s11)) (fun q => RL2 G S P N E K L (.inl (fl 4 (P k))) q) := by
    rw [fails_R g1]
    refine t_sb ?_
    dsimp only
    exact t_bind (t_rtZ (v := 0) (Or.inl rfl)) (fun t10 h10 => t_some (Or.inl ⟨_, rfl, h10, wup_same⟩))
  have h15 : 15 ≤ (S k).toInt := by rcases hw with e | e | e <;> rw [e] <;> decide
  obtain ⟨hkK, hpw⟩ := passWord_R g1 tk h15 nx_n
  have hpw : wX11_passWord (nxt s (P k)) = some (nxt s (Int32.ofNat (E k))) := by rw [hpw]; exact congrArg some wup_wup
  have g2 : RS G S P N E K (k + 1) (nxt s (Int32.ofNat (E k))) := g.behind tk hkK rfl
  have rt2 := rt.nx (v := Int32.ofNat (E k))
  by_cases c15 : S k = 15
  · rw [if_pos c15, if_neg (by decide), if_pos c15]
    have z7 : (nxt s (P k)).1 152 7 = h := rt1.1.1
    rw [z7]
    by_cases ch : h = 0
    · rw [if_pos ch, if_neg (by rw [ch]; decide), hpw, t_sbe]
      obtain ⟨a1, ⟨n, a2, a3⟩, a4, ak⟩ := g2
      refine t_bind (numberHere_E a1 tk ak a2 a3 a4 (by decide)) (fun q hq => ?_)
      rcases hq with ⟨e, n1, q0, qe⟩ | ⟨n1, nS, rfl⟩
      · obtain ⟨t, u⟩ := q
        rw [n1]
        exact t_ite (fun _ => t_some (Or.inl ⟨e, rfl, rfl, qe⟩)) (fun c => absurd q0 c)
      · rw [n1]
        dsimp only
        rw [if_neg (by decide), wup_same]
        have hk2 : k + 1 < K := tk.ne0 ak (by rw [nS]; decide)
        obtain ⟨_, b1, b2⟩ := num_i n1
        rw [show (1 : Int32).toInt = 1 from rfl] at b1
        rw [show (8 : Int32).toInt = 8 from rfl] at b2
        have hne : ¬ N (k + 1) = 0 := fun q => by rw [q, t_i0] at b1; omega
        have b3 : RS G S P N E K (k + 2) (nxt (nxt s (Int32.ofNat (E k))) (Int32.ofNat (E (k + 1)))) := RS.behind ⟨a1, ⟨n, a2, a3⟩, a4, ak⟩ tk hk2 rfl
        obtain ⟨c1, ⟨n', c2, c3⟩, c4, c5⟩ := b3
        obtain ⟨⟨d1, d2, d3⟩, ⟨d4, d5⟩, d6, d7, d8⟩ := rt2
        refine t_some (Or.inr ⟨_, rfl, rfl, ⟨c1.go ?_ ?_, ⟨n', ?_, c3⟩, ?_, c5⟩, ⟨⟨wup_same, ?_, ?_⟩, ⟨?_, ?_⟩, ?_, d7, by dsimp only; omega⟩, ?_, ?_⟩)
        · rw [wupI_n (by decide), wupI_n (by decide)]
        · rw [wup_nb (by decide), wup_nb (by decide)]
        · rw [wup_nb (by decide), wup_nb (by decide)]; exact c2
        · rw [wup_nb (by decide), wup_nb (by decide)]; exact c4
        · rw [wup_nb (by decide), wup_nb (by decide), wup_nb (by decide)]; exact d2
        · rw [wup_nb (by decide), wup_nb (by decide), wup_nb (by decide)]; exact d3
        · rw [wupI_n (by decide), wupI_n (by decide), wupI_n (by decide)]; exact d4
        · rw [wupI_n (by decide), wupI_n (by decide), wupI_n (by decide)]; exact d5
        · rw [wup_nb (by decide), wup_nb (by decide), wup_nb (by decide)]; exact d6
        · rw [wup_nb (by decide), wup_nb (by decide), wup_nb (by decide), wup_nb (by decide)]; exact hL
        · rw [hL2]
          unfold LN
          dsimp only
          rw [if_neg hne, if_pos ch]
          omega
    · rw [if_neg ch, if_pos (Int32.lt_iff_toInt_lt.2 (by
        have := rt.2.2.2.2.1
        rw [t_i0]
        by_cases q : h.toInt = 0
        · exact absurd (Int32.toInt_inj.1 q) ch
        · omega))]
      exact full
  · rw [if_neg c15, if_pos rfl, if_neg c15]
    have hw' : S k = 17 ∨ S k = 18 := hw.resolve_left c15
    have eqw : nxt (nxt s (P k)) (P k) = nxt s (P k) := wup_wup
    rw [isWord_R (c := 1919902052) (z := 2) g1 tk rfl (by decide), t_sbe, eqw]
    dsimp only
    have e17 : Int32.ofNat (15 + 2) = 17 := rfl
    rw [e17]
    by_cases c17 : S k = 17
    · rw [if_pos c17, if_neg (by decide), if_pos c17]
      unfold wX11_courtLineHere_j73
      have z8 : (nxt s (P k)).1 152 8 = Int32.ofNat r := rt1.1.2.1
      have r8 := rt.2.2.2.1.1
      have er : (Int32.ofNat r).toInt = r := t_on (by omega)
      rw [z8]
      by_cases cr : r = 8
      · rw [if_pos cr, if_pos (by rw [cr]; rfl)]
        exact full
      · rw [if_neg cr, if_neg (fun q => cr (by have := congrArg Int32.toInt q; rw [er, show (8 : Int32).toInt = 8 from rfl] at this; omega)), hpw, t_sbe, if_neg (by decide)]
        refine t_bind (isRoadHere_E (r := r) g2 tk rt2.1.2.1 (by omega)) (fun q hq => ?_)
        obtain ⟨t, u⟩ := q
        rcases hq with ⟨e, n1, q0, qe⟩ | ⟨n1, m1, q0, h1, h2, h3, h4⟩
        · dsimp only at q0 qe ⊢
          refine t_bind (t_rtZ (Or.inl q0)) (fun t10 h10 => t_some (Or.inl ⟨e, ?_, h10.trans q0, qe⟩))
          rcases n1 with n1 | ⟨n1, m1⟩
          · rw [n1]
          · rw [n1]; dsimp only; rw [m1]
        · dsimp only at q0 h1 h2 h3 h4 ⊢
          refine t_bind (t_rtZ (Or.inr q0)) (fun t10 h10 => ?_)
          rw [n1]
          dsimp only
          rw [m1]
          dsimp only
          refine t_some (Or.inr ⟨_, rfl, h10.trans q0, h1, ⟨⟨?_, h3, ?_⟩, ⟨?_, ?_⟩, ?_, ⟨by dsimp only; omega, rt.2.2.2.1.2⟩, rt2.2.2.2.2⟩, ?_, ?_⟩)
          · rw [h4 152 7 rfl]; exact rt2.1.1
          · rw [h4 152 9 rfl]; exact rt2.1.2.2
          · rw [h2, rt2.2.1.1]
          · rw [show u.1 159 = (nxt s (Int32.ofNat (E k))).1 159 from funext fun b => h4 159 b rfl]; exact rt2.2.1.2
          · rw [h4 152 15 rfl]; exact rt2.2.2.1
          · rw [h4 152 18 rfl, wup_nb (by decide)]; exact hL
          · rw [hL2]; unfold LN; dsimp only; omega
    · have c18 : S k = 18 := hw'.resolve_left c17
      rw [if_neg c17, if_pos rfl, if_neg c17, if_pos c18]
      unfold wX11_courtLineHere_j73
      have z9 : (nxt s (P k)).1 152 9 = Int32.ofNat m := rt1.1.2.2
      have r8 := rt.2.2.2.1.2
      have er : (Int32.ofNat m).toInt = m := t_on (by omega)
      rw [z9]
      by_cases cr : m = 8
      · rw [if_pos cr, if_pos (by rw [cr]; rfl)]
        exact full
      · rw [if_neg cr, if_neg (fun q => cr (by have := congrArg Int32.toInt q; rw [er, show (8 : Int32).toInt = 8 from rfl] at this; omega)), hpw, t_sbe, if_pos rfl]
        refine t_bind (isManHere_E (r := m) g2 tk rt2.1.2.2 (by omega)) (fun q hq => ?_)
        obtain ⟨t, u⟩ := q
        rcases hq with ⟨e, n1, q0, qe⟩ | ⟨n1, m1, q0, h1, h2, h3, h4⟩
        · dsimp only at q0 qe ⊢
          refine t_bind (t_rtZ (Or.inl q0)) (fun t10 h10 => t_some (Or.inl ⟨e, ?_, h10.trans q0, qe⟩))
          rcases n1 with n1 | ⟨n1, m1⟩
          · rw [n1]
          · rw [n1]; dsimp only; rw [m1]
        · dsimp only at q0 h1 h2 h3 h4 ⊢
          refine t_bind (t_rtZ (Or.inr q0)) (fun t10 h10 => ?_)
          rw [n1]
          dsimp only
          rw [m1]
          dsimp only
          refine t_some (Or.inr ⟨_, rfl, h10.trans q0, h1, ⟨⟨?_, ?_, h3⟩, ⟨?_, ?_⟩, ?_, ⟨rt.2.2.2.1.1, by dsimp only; omega⟩, rt2.2.2.2.2⟩, ?_, ?_⟩)
          · rw [h4 152 7 rfl]; exact rt2.1.1
          · rw [h4 152 8 rfl]; exact rt2.1.2.1
          · rw [show u.1 158 = (nxt s (Int32.ofNat (E k))).1 158 from funext fun b => h4 158 b rfl]; exact rt2.2.1.1
          · rw [h2, rt2.2.1.2]
          · rw [h4 152 15 rfl]; exact rt2.2.2.1
          · rw [h4 152 18 rfl, wup_nb (by decide)]; exact hL
          · rw [hL2]; unfold LN; dsimp only; omega
end CRF
