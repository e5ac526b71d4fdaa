/-! The reference's bytes and WORDS, against the tokens. -/
theorem and255 {x : Int32} (h0 : -128 ≤ x.toInt) (h1 : x.toInt ≤ 127) : (x &&& 255).toInt = if 0 ≤ x.toInt then x.toInt else x.toInt + 256 := by
  have key : ∀ n : Nat, n < 256 → (Int32.ofInt ((n : Int) - 128) &&& 255).toInt = if 0 ≤ ((n : Int) - 128) then ((n : Int) - 128) else ((n : Int) - 128) + 256 := by decide +kernel
  have e : x = Int32.ofInt (((x.toInt + 128).toNat : Int) - 128) := by
    apply Int32.toInt_inj.1
    rw [show (((x.toInt + 128).toNat : Int) - 128) = x.toInt by omega, Int32.ofInt_toInt]
  have k := key (x.toInt + 128).toNat (by omega)
  rw [← e, show (((x.toInt + 128).toNat : Int) - 128) = x.toInt by omega] at k
  exact k
/-- the reference's text is that one -/
noncomputable def RG (G s : wS) : Prop := s.1 153 = G.1 2 ∧ s.1 152 1 = G.1 1 1 ∧ (0 ≤ (G.1 1 1).toInt ∧ (G.1 1 1).toInt ≤ 400) ∧ ∀ i, -128 ≤ (G.1 2 i).toInt ∧ (G.1 2 i).toInt ≤ 127
/-- it stands there -/
noncomputable abbrev nxt (s : wS) (v : Int32) : wS := wupI s 152 12 v
theorem wup_id {s : wS} {k b : Nat} : wupI s k b (s.1 k b) = s := by
  apply Prod.ext
  · funext j
    show (if j = k then upd (s.1 k) b (s.1 k b) else s.1 j) = s.1 j
    by_cases h : j = k
    · rw [if_pos h, h]
      funext c
      unfold upd
      by_cases hc : c = b
      · rw [if_pos hc, hc]
      · rw [if_neg hc]
    · rw [if_neg h]
  · rfl
theorem wup_wup {s : wS} {k b : Nat} {u v : Int32} : wupI (wupI s k b u) k b v = wupI s k b v := by
  apply Prod.ext
  · funext j
    show (if j = k then upd ((wupI s k b u).1 k) b v else (wupI s k b u).1 j) = (if j = k then upd (s.1 k) b v else s.1 j)
    by_cases h : j = k
    · rw [if_pos h, if_pos h, wupI_k]
      funext c
      unfold upd
      by_cases hc : c = b
      · rw [if_pos hc, if_pos hc]
      · rw [if_neg hc, if_neg hc, if_neg hc]
    · rw [if_neg h, if_neg h, wupI_n h]
  · rfl
theorem RG.nx {G s : wS} {v : Int32} (g : RG G s) : RG G (nxt s v) := by
  obtain ⟨g1, g2, g3⟩ := g
  exact ⟨by rw [wupI_n (by omega)]; exact g1, by rw [wup_nb (by omega)]; exact g2, g3⟩
theorem nx_n {s : wS} {v : Int32} : (nxt s v).1 152 12 = v := wup_same
theorem t_on {n : Nat} (h : n < 2147483648) : (Int32.ofNat n).toInt = n := Int32.toInt_ofNat_of_lt h
theorem t_cln {x : Int32} (h : 0 ≤ x.toInt) : ((x.toNatClampNeg : Nat) : Int) = x.toInt := by unfold Int32.toNatClampNeg; omega
theorem t_oc {x : Int32} (h : 0 ≤ x.toInt) : Int32.ofNat x.toNatClampNeg = x := by
  apply Int32.toInt_inj.1
  have := Int32.toInt_lt x
  have := t_cln h
  rw [t_on (by omega), this]
theorem bt_i {G : wS} {i : Nat} (h : (i : Int) < (G.1 1 1).toInt) : bt G i = G.1 2 i &&& 255 := by
  unfold bt
  rw [if_pos h]
theorem bt_raw {G : wS} {i : Nat} (hb : ∀ i, -128 ≤ (G.1 2 i).toInt ∧ (G.1 2 i).toInt ≤ 127) (h : (i : Int) < (G.1 1 1).toInt) : (bt G i).toInt = if 0 ≤ (G.1 2 i).toInt then (G.1 2 i).toInt else (G.1 2 i).toInt + 256 := by
  rw [bt_i h]
  exact and255 (hb i).1 (hb i).2
/-- a sign below 128, read raw -/
theorem bt_eq {G : wS} {i : Nat} {c : Int32} (hb : ∀ i, -128 ≤ (G.1 2 i).toInt ∧ (G.1 2 i).toInt ≤ 127) (h : (i : Int) < (G.1 1 1).toInt) (c0 : 0 ≤ c.toInt) (c1 : c.toInt < 128) : bt G i = c ↔ G.1 2 i = c := by
  have e := bt_raw hb h
  have b := hb i
  constructor
  · intro q
    rw [q] at e
    apply Int32.toInt_inj.1
    by_cases z : 0 ≤ (G.1 2 i).toInt
    · rw [if_pos z] at e; omega
    · rw [if_neg z] at e; omega
  · intro q
    apply Int32.toInt_inj.1
    rw [e, q, if_pos c0]
theorem bw_raw {G : wS} {i : Nat} {lo hi : Int32} (hb : ∀ i, -128 ≤ (G.1 2 i).toInt ∧ (G.1 2 i).toInt ≤ 127) (l0 : 0 < lo.toInt) (h1 : hi.toInt < 128) : bw G lo hi i ↔ ((i : Int) < (G.1 1 1).toInt ∧ lo.toInt ≤ (G.1 2 i).toInt ∧ (G.1 2 i).toInt ≤ hi.toInt) := by
  constructor
  · intro q
    have hT := bw_lt l0 q
    have e := bt_raw hb hT
    have a := t_ge q.1
    have b := t_ge q.2
    have c := hb i
    refine ⟨hT, ?_⟩
    by_cases z : 0 ≤ (G.1 2 i).toInt
    · rw [if_pos z] at e; omega
    · rw [if_neg z] at e; omega
  · rintro ⟨hT, a, b⟩
    have e := bt_raw hb hT
    rw [if_pos (by omega)] at e
    exact ⟨fun q => by have := t_lt q; omega, fun q => by have := t_lt q; omega⟩
theorem lt_raw {G s : wS} (g : RG G s) {i : Nat} : lt G i ↔ ((i : Int) < (s.1 152 1).toInt ∧ LTx s i) := by
  unfold LTx
  rw [g.1, g.2.1]
  exact bw_raw g.2.2.2 (by decide) (by decide)
theorem RG.tp {G s : wS} (g : RG G s) (h0 : 0 ≤ (s.1 152 12).toInt) (h1 : (s.1 152 12).toInt ≤ (G.1 1 1).toInt) : TP s := by
  unfold TP
  rw [g.2.1]
  exact ⟨g.2.2.1, h0, h1⟩
theorem see_h0_E {G : wS} : ∀ (f : Nat) {n p : Nat} {s : wS}, RG G s → (s.1 152 12).toInt = n → SK G n p → (p : Int) - n < f → wX11_see_h0 f s = some (nxt s (Int32.ofNat p)) := by
  intro f
  induction f with
  | zero => intro n p s g hn sk hm; exfalso; have := sk.1; omega
  | succ f ih =>
    intro n p s g hn sk hm
    obtain ⟨k1, k2, k3, k4⟩ := sk
    obtain ⟨g1, g2, g3, g4⟩ := id g
    have hnn : (s.1 152 12).toNatClampNeg = n := by unfold Int32.toNatClampNeg; omega
    have stay : n = p → some s = some (nxt s (Int32.ofNat p)) := by
      rintro rfl
      have : Int32.ofNat n = s.1 152 12 := Int32.toInt_inj.1 (by rw [t_on (by omega), hn])
      rw [this]
      exact congrArg some wup_id.symm
    rw [wX11_see_h0]
    by_cases c : s.1 152 12 < s.1 152 1
    · have hc := t_lt c
      rw [g2] at hc
      rw [if_pos c]
      obtain ⟨t2, e2, h2⟩ := t_ldI (s := s) (k := 153) (n := 400) (i := s.1 152 12) (by omega) (by omega)
      rw [e2]
      show (if t2 = 32 then _ else _) = _
      have hb := bt_eq (i := n) (c := 32) g4 (by omega) (by decide) (by decide)
      rw [hnn, g1] at h2
      by_cases c2 : t2 = 32
      · have h32 : bt G n = 32 := hb.2 (h2.symm.trans c2)
        have hnp : n ≠ p := fun e => k4 (e ▸ h32)
        rw [if_pos c2]
        have e1 : (s.1 152 12 + 1).toInt = n + 1 := by rw [t_p1 (by omega) (by omega), hn]
        show wX11_see_h0 f (nxt s (s.1 152 12 + 1)) = _
        rw [ih (n := n + 1) (p := p) g.nx (by rw [nx_n, e1]; rfl) ⟨by omega, k2, fun j h1 h2 => k3 j (by omega) h2, k4⟩ (by omega)]
        exact congrArg some wup_wup
      · rw [if_neg c2]
        apply stay
        by_cases hnp : n < p
        · exact absurd (h2.trans (hb.1 (k3 n (by omega) hnp))) c2
        · omega
    · have hc := t_ge c
      rw [g2] at hc
      rw [if_neg c]
      exact stay (by omega)
theorem see_E {G : wS} {n p : Nat} {s : wS} (g : RG G s) (hn : (s.1 152 12).toInt = n) (sk : SK G n p) : wX11_see s = some (if (p : Int) < (G.1 1 1).toInt then bt G p else -1, nxt s (Int32.ofNat p)) := by
  have hp := sk.2.1
  have hT := g.2.2.1
  unfold wX11_see
  rw [see_h0_E wFuel g hn sk (by have e : ((wFuel : Nat) : Int) = 1099511627776 := rfl; omega)]
  show wX11_see_j38 (nxt s (Int32.ofNat p)) = _
  unfold wX11_see_j38
  have z1 : (nxt s (Int32.ofNat p)).1 152 1 = G.1 1 1 := g.nx.2.1
  have zp : (Int32.ofNat p).toInt = p := t_on (by omega)
  rw [nx_n, z1]
  by_cases c : Int32.ofNat p < G.1 1 1
  · have hc := t_lt c
    rw [zp] at hc
    rw [if_pos c, if_pos hc]
    obtain ⟨t2, e2, h2⟩ := t_ldI (s := nxt s (Int32.ofNat p)) (k := 153) (n := 400) (i := Int32.ofNat p) (by omega) (by omega)
    rw [e2]
    have hnn : (Int32.ofNat p).toNatClampNeg = p := by unfold Int32.toNatClampNeg; omega
    rw [hnn, g.nx.1] at h2
    show some (t2 &&& 255, _) = _
    rw [h2, bt_i hc]
  · have hc := t_ge c
    rw [zp] at hc
    rw [if_neg c, if_neg (by omega)]
theorem isLetter_E {G : wS} {i : Int32} {s : wS} (g : RG G s) (h : 0 ≤ i.toInt) (hp : TP s) : Tot (wX11_isLetter i s) (fun t => (t = 0 ∧ ¬ lt G i.toNatClampNeg) ∨ (t = 1 ∧ lt G i.toNatClampNeg)) := by
  refine t_mono (wX11_isLetter_T hp h) (fun t ht => ?_)
  rw [lt_raw g, t_cln h]
  exact ht
theorem passWord_h0_E {G : wS} : ∀ (f : Nat) {n p : Nat} {s : wS}, RG G s → (s.1 152 12).toInt = n → n ≤ p → (p : Int) ≤ (G.1 1 1).toInt → (∀ j, n ≤ j → j < p → lt G j) → ¬ lt G p → (p : Int) - n < f → wX11_passWord_h0 f s = some (nxt s (Int32.ofNat p)) := by
  intro f
  induction f with
  | zero => intro n p s g hn h1 h2 h3 h4 hm; exfalso; omega
  | succ f ih =>
    intro n p s g hn h1 h2 h3 h4 hm
    have hT := g.2.2.1
    have hnn : (s.1 152 12).toNatClampNeg = n := by unfold Int32.toNatClampNeg; omega
    rw [wX11_passWord_h0]
    obtain ⟨t, et, ht⟩ := isLetter_E (i := s.1 152 12) g (by omega) (g.tp (by omega) (by omega))
    rw [hnn] at ht
    rw [et]
    show (if t = 0 then _ else _) = _
    by_cases c : n = p
    · subst c
      have t0 : t = 0 := (ht.resolve_right (fun q => h4 q.2)).1
      rw [if_pos t0]
      have : Int32.ofNat n = s.1 152 12 := Int32.toInt_inj.1 (by rw [t_on (by omega), hn])
      rw [this]
      exact congrArg some wup_id.symm
    · have t1 : t = 1 := (ht.resolve_left (fun q => q.2 (h3 n (Nat.le_refl _) (by omega)))).1
      rw [if_neg (by rw [t1]; decide)]
      have e1 : (s.1 152 12 + 1).toInt = n + 1 := by rw [t_p1 (by omega) (by omega), hn]
      show wX11_passWord_h0 f (nxt s (s.1 152 12 + 1)) = _
      rw [ih (n := n + 1) (p := p) g.nx (by rw [nx_n, e1]; rfl) (by omega) h2 (fun j a b => h3 j (by omega) b) h4 (by omega)]
      exact congrArg some wup_wup
theorem passWord_E {G : wS} {p e : Nat} {s : wS} {sg nm : Int32} (g : RG G s) (hn : (s.1 152 12).toInt = p) (tk : TOK G p sg nm e) (hl : lt G p) : wX11_passWord s = some (nxt s (Int32.ofNat e)) := by
  have hle := tk.le
  have hT := g.2.2.1
  unfold wX11_passWord
  obtain ⟨h0, h | h | h⟩ := tk
  · rw [passWord_h0_E wFuel g hn (by omega) hle.2 h.2.1 h.2.2.1 (by have e : ((wFuel : Nat) : Int) = 1099511627776 := rfl; omega)]
    rfl
  · exfalso
    have a := t_ge hl.1
    have b := t_ge h.1.2
    rw [show (97 : Int32).toInt = 97 from rfl] at a
    rw [show (57 : Int32).toInt = 57 from rfl] at b
    omega
  · exact absurd hl h.1
/-- the packed WORDS -/
noncomputable abbrev wpk (z : Nat) : Int64 := ([448546566771, 1752135026, 1919902052, 7168366, 26982, 28530, 6385252, 7237492, 418548245860, 1936024942, 418497262196, 25720, 25721, 521391927923, 110472554705523, 7039342] : List Int64).getD z 0
noncomputable def tpk (z : Nat) : Nat → Int
  | 0 => 0
  | m + 1 => 256 * tpk z m + (rs_ch z (Int32.ofNat m)).toInt
theorem tpk_eq : ∀ z, z < 16 → (wpk z).toInt = tpk z (rs_L.getD z 0) := by decide +kernel
theorem rs_ch_b : ∀ z, z < 16 → ∀ j, j < rs_L.getD z 0 → 97 ≤ (rs_ch z (Int32.ofNat j)).toInt ∧ (rs_ch z (Int32.ofNat j)).toInt ≤ 122 := by decide +kernel
theorem rs_L_b : ∀ z, z < 16 → 2 ≤ rs_L.getD z 0 ∧ rs_L.getD z 0 ≤ 6 := by decide
theorem pk_inj {s : wS} {i z : Nat} (hz : z < 16) : ∀ {m l : Nat}, l ≤ rs_L.getD z 0 → (∀ j, j < m → LTx s (i + j)) → pkN s i m = tpk z l → m = l ∧ ∀ j, j < m → (s.1 153 (i + j)).toInt = (rs_ch z (Int32.ofNat j)).toInt := by
  intro m
  induction m with
  | zero =>
    intro l hl hL h
    cases l with
    | zero => exact ⟨rfl, fun j hj => absurd hj (by omega)⟩
    | succ l =>
      exfalso
      have b := rs_ch_b z hz l (by omega)
      have nn : ∀ l, l ≤ rs_L.getD z 0 → 0 ≤ tpk z l := by
        intro l
        induction l with
        | zero => intro _; exact Int.le_refl 0
        | succ l ih => intro hl; have := ih (by omega); have := rs_ch_b z hz l (by omega); show 0 ≤ 256 * tpk z l + _; omega
      have := nn l (by omega)
      have e : (0 : Int) = 256 * tpk z l + (rs_ch z (Int32.ofNat l)).toInt := h
      omega
  | succ m ih =>
    intro l hl hL h
    have lm := hL m (by omega)
    unfold LTx at lm
    have nn := (pkN_b (s := s) (i := i) (m := m) (fun j hj => hL j (by omega))).1
    cases l with
    | zero =>
      exfalso
      have e : 256 * pkN s i m + (s.1 153 (i + m)).toInt = 0 := h
      omega
    | succ l =>
      have b := rs_ch_b z hz l (by omega)
      have e : 256 * pkN s i m + (s.1 153 (i + m)).toInt = 256 * tpk z l + (rs_ch z (Int32.ofNat l)).toInt := h
      obtain ⟨e1, e2⟩ := ih (l := l) (by omega) (fun j hj => hL j (by omega)) (by omega)
      subst e1
      refine ⟨rfl, fun j hj => ?_⟩
      by_cases hjm : j = m
      · rw [hjm]; omega
      · exact e2 j (by omega)
theorem pk_of {s : wS} {i z : Nat} : ∀ {m : Nat}, (∀ j, j < m → (s.1 153 (i + j)).toInt = (rs_ch z (Int32.ofNat j)).toInt) → pkN s i m = tpk z m := by
  intro m
  induction m with
  | zero => intro _; rfl
  | succ m ih =>
    intro h
    show 256 * pkN s i m + _ = 256 * tpk z m + _
    rw [ih (fun j hj => h j (by omega)), h m (by omega)]
theorem bsg_le (c d : Int32) : (bsg c d).toInt ≤ 14 ∧ 1 ≤ (bsg c d).toInt := by
  unfold bsg
  repeat' (first | exact ⟨by decide, by decide⟩ | split)
theorem t15 {z : Nat} (hz : z < 16) : (Int32.ofNat (15 + z)).toInt = 15 + z := by rw [t_on (by omega)]; omega
theorem isWord_E {G : wS} {S P N : Nat → Int32} {E : Nat → Nat} {K k n z : Nat} {s : wS} (hz : z < 16) (g : RG G s) (tk : TOKS G S P N E K) (hk : k ≤ K) (hn : (s.1 152 12).toInt = n) (sk : SK G n (P k).toNatClampNeg) (p0 : 0 ≤ (P k).toInt) : wX11_isWord (wpk z) s = some (if S k = Int32.ofNat (15 + z) then 1 else 0, nxt s (P k)) := by
  have hT := g.2.2.1
  have hp := sk.2.1
  have ep := t_oc p0
  have epc := t_cln p0
  unfold wX11_isWord
  rw [see_E g hn sk, ep]
  rw [t_sbe]
  dsimp only
  have g' : RG G (nxt s (P k)) := g.nx
  have en : (nxt s (P k)).1 152 12 = P k := nx_n
  have eT : (nxt s (P k)).1 152 1 = G.1 1 1 := g'.2.1
  have tp : TP (nxt s (P k)) := g'.tp (by rw [en]; exact p0) (by rw [en]; omega)
  obtain ⟨⟨v, t⟩, e10, M, hM, hR, hv⟩ := wX11_isWord_h10_E (x1 := wpk z) tp wFuel (m := 0) (x3 := 0) (x5 := 0) rfl (fun j hj => absurd hj (by omega)) (by rw [en, eT]; omega) (fun _ => rfl) (by
    have e : ((wFuel : Nat) : Int) = 1099511627776 := rfl
    rw [en, eT]
    omega)
  unfold RUN at hR
  rw [en, eT] at hR
  rw [en] at hv
  dsimp only at hM hv
  rw [e10, t_sbe]
  dsimp only
  have LL : ∀ j, LTx (nxt s (P k)) j ↔ LTx s j := fun j => by unfold LTx; rw [g'.1, g.1]
  obtain ⟨R1, R2, R3⟩ := hR
  have t0 : (0 : Int32) < t ↔ 0 < M := by rw [Int32.lt_iff_toInt_lt, t_i0, hM]; omega
  have t8 : t < 8 ↔ M < 8 := by rw [Int32.lt_iff_toInt_lt, hM, show (8 : Int32).toInt = 8 from rfl]; omega
  -- letters by the reference are letters by the class
  have lr : ∀ j, j < M → lt G ((P k).toNatClampNeg + j) := fun j hj => (lt_raw g').2 ⟨by rw [eT]; omega, R1 j hj⟩
  have ln : ¬ lt G ((P k).toNatClampNeg + M) := fun q => by
    have q1 := lt_lt q
    exact R3 (by omega) ((lt_raw g').1 q).2
  have zero : ¬ S k = Int32.ofNat (15 + z) → ¬ (0 < M ∧ M < 8 ∧ v = wpk z) → (if 0 < t then (if t < 8 then (if v = wpk z then (some ((1 : Int32), nxt s (P k))) else (some ((0 : Int32), nxt s (P k)))) else (some (0, nxt s (P k)))) else (some (0, nxt s (P k)))) = some (if S k = Int32.ofNat (15 + z) then 1 else 0, nxt s (P k)) := by
    intro h1 h2
    rw [if_neg h1]
    by_cases c1 : 0 < t
    · rw [if_pos c1]
      by_cases c2 : t < 8
      · rw [if_pos c2]
        by_cases c3 : v = wpk z
        · exact absurd ⟨t0.1 c1, t8.1 c2, c3⟩ h2
        · rw [if_neg c3]
      · rw [if_neg c2]
    · rw [if_neg c1]
  obtain ⟨a1, a2, a3, a4, a5⟩ := tk
  by_cases hkK : k = K
  · subst hkK
    refine zero ?_ ?_
    · rw [a3]
      intro q
      have := t15 hz
      rw [← q, t_i0] at this
      omega
    · rintro ⟨m0, -, -⟩
      have := lt_lt (lr 0 m0)
      rw [a4] at epc this
      omega
  · obtain ⟨b1, ⟨b2, h | h | h⟩, b3⟩ := a1 k (by omega)
    · obtain ⟨w1, w2, w3, w4⟩ := h
      have eM : M = E k - (P k).toNatClampNeg := by
        by_cases c : M < E k - (P k).toNatClampNeg
        · exact absurd (w2 _ (by omega) (by omega)) ln
        · by_cases d : E k - (P k).toNatClampNeg < M
          · have := lr (E k - (P k).toNatClampNeg) d
            rw [show (P k).toNatClampNeg + (E k - (P k).toNatClampNeg) = E k by omega] at this
            exact absurd this w3
          · omega
      have raw : ∀ j, j < M → ((nxt s (P k)).1 153 ((P k).toNatClampNeg + j)).toInt = (bt G ((P k).toNatClampNeg + j)).toInt := fun j hj => by
        have q := (lt_raw g').1 (lr j hj)
        have l := q.2
        unfold LTx at l
        rw [g'.1] at l ⊢
        rw [bt_raw g.2.2.2 (by rw [← eT]; exact q.1), if_pos (by omega)]
      by_cases hS : S k = Int32.ofNat (15 + z)
      · have hsp : sp G (P k).toNatClampNeg (E k - (P k).toNatClampNeg) z := by
          rcases w4 with ⟨z', hz', e, h⟩ | ⟨e, -⟩
          · have : z' = z := by
              have q := congrArg Int32.toInt (hS.symm.trans e)
              rw [t15 hz, t15 hz'] at q
              omega
            rw [← this]; exact h
          · exfalso
            rw [e] at hS
            have q := congrArg Int32.toInt hS
            rw [t15 hz, show (1 : Int32).toInt = 1 from rfl] at q
            omega
        rw [← eM] at hsp
        have hb := rs_L_b z hz
        have h1 := hsp.1
        have : v = wpk z := Int64.toInt_inj.1 (by
          rw [hv (by omega), tpk_eq z hz, ← h1]
          exact pk_of (fun j hj => by rw [raw j hj, hsp.2 j hj]))
        rw [if_pos (t0.2 (by omega)), if_pos (t8.2 (by omega)), if_pos this, if_pos hS]
      · refine zero hS ?_
        rintro ⟨m0, m8, q⟩
        have e1 := hv (by omega)
        rw [q, tpk_eq z hz] at e1
        obtain ⟨e2, e3⟩ := pk_inj hz (Nat.le_refl _) R1 e1.symm
        have hsp : sp G (P k).toNatClampNeg (E k - (P k).toNatClampNeg) z := by
          rw [← eM]
          exact ⟨e2, fun j hj => Int32.toInt_inj.1 (by rw [← raw j hj, e3 j hj])⟩
        rcases w4 with ⟨z', hz', e, h⟩ | ⟨-, h⟩
        · exact hS (by rw [e, sp_same hz' hz h hsp])
        · exact h z hz hsp
    · refine zero ?_ ?_
      · rw [h.2.2.2.1]
        intro q
        have := t15 hz
        rw [← q, show (2 : Int32).toInt = 2 from rfl] at this
        omega
      · rintro ⟨m0, -, -⟩
        have a := t_ge (lr 0 m0).1
        have b := t_ge h.1.2
        rw [Nat.add_zero] at a
        rw [show (97 : Int32).toInt = 97 from rfl] at a
        rw [show (57 : Int32).toInt = 57 from rfl] at b
        omega
    · refine zero ?_ ?_
      · rw [h.2.2.2.2.1]
        intro q
        have := t15 hz
        have := bsg_le (bt G (P k).toNatClampNeg) (bt G ((P k).toNatClampNeg + 1))
        rw [q] at this
        omega
      · rintro ⟨m0, -, -⟩
        exact h.1 (lr 0 m0)
