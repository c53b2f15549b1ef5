/-! GROUND -/
theorem inv_end {c r c' r' : AH} (I : Inv c r) (m : ∃ S G N T, MR 42 c' r' S G N T) (h6 : c'.1 0 6 = 0) (h21 : r'.1 0 21 = 0) (h8 : c'.1 0 8 = c.1 0 8) (h34 : r'.1 0 34 = r.1 0 34) (h3 : ∀ k, c'.1 3 k = c.1 3 k) (h23 : ∀ k, r'.1 23 k = r.1 23 k) (p : PCi c c') (q : PRi r r') : Inv c' r' := by
  obtain ⟨n, n1, n2, n3, n4⟩ := I.2.2.2.1
  exact inv_g I m ⟨0, by omega, h6, h21, fun k hk => absurd hk (by omega)⟩ ⟨n, n1, by rw [h8]; exact n2, by rw [h34]; exact n3, fun k hk => by rw [h3, h23]; exact n4 k hk⟩ p q
section GR
variable {S G N T : Nat} {c r : AH} {l : Nat → Int32} {L : Nat}
theorem s_span {x : Int32} (ok : okL x) (h : AH) : X10_span x h = some (nI (sp x), h) := by
  unfold X10_span X10_span_j14
  rcases s_let x h with ⟨_, e⟩ | ⟨n, _⟩
  · rw [e, bd_s, if_pos (nI_pos' (by have : dn x ≤ 13 := by unfold dn; repeat' split
                                                            all_goals omega
                                     omega))]
    unfold sp sg
    by_cases z : x = 119
    · rw [if_pos z, if_pos z]
      have e3 : nI (dn x) + 3 = nI (dn x + 3) := nI_add _ 3
      rw [e3]
      congr 3
      omega
    · rw [if_neg z, if_neg z]
      have e3 : nI (dn x) + 2 = nI (dn x + 2) := nI_add _ 2
      rw [e3]
      congr 3
      omega
  · exact absurd ok n
theorem l_mind {c1 r1 : AH} (hL : L ≤ 96) (e : c1.1 0 6 = nI L) (hl : ∀ k, k < L → c1.1 2 k = l k) {K : Nat} (hK : K ≤ 48) (hp : pos l K = L) (hT : TOLD l L r1 K) (h23 : r1.1 0 23 = nI K) : ∀ (f k : Nat) (ct rt : AH) (S G N T : Nat), K < k + f → k ≤ K → MR 52 ct rt S G N T → JC c1 ct → KR r1 rt →
    (∃ c' r' S' G' N' T', X10_statementsInMind_l15 f (nI k) (nI (pos l k)) ct = some (nI K, c') ∧ X11_ground_l86 f (nI k) rt = some (nI K, r') ∧ MR 52 c' r' S' G' N' T' ∧ JC c1 c' ∧ KR r1 r') ∨
    (∃ c' r' q, q ≤ L ∧ X10_statementsInMind_l15 f (nI k) (nI (pos l k)) ct = some (-2000 - nI q, c') ∧ X11_ground_l86 f (nI k) rt = (bd (X11_passesAll 1 0 r') fun _ h9 => some (-2000 - nI q, h9)) ∧ JC c1 c' ∧ KR r1 r') := by
  intro f
  induction f with
  | zero => intro k ct rt S G N T h1 h2; omega
  | succ f ih =>
    intro k ct rt S G N T h1 h2 M p q
    have e6 : ct.1 0 6 = nI L := by rw [p.1 0 6 (by omega) (by omega)]; exact e
    have r23 : rt.1 0 23 = nI K := by rw [q.1 23 (by omega)]; exact h23
    rw [X10_statementsInMind_l15.eq_2, X11_ground_l86.eq_2, e6, r23]
    by_cases z : k = K
    · subst z
      rw [hp, if_pos (Int32.le_refl _), if_pos (Int32.le_refl _)]
      exact Or.inl ⟨ct, rt, S, G, N, T, rfl, rfl, M, p, q⟩
    · obtain ⟨t1, t2, t3, t4, t5, t6, t7⟩ := hT k (by omega)
      have hlc : ∀ i, i < L → ct.1 2 i = l i := fun i hi => by rw [p.1 2 i (by omega) (by omega)]; exact hl i hi
      have C := s_comes M (l := l) (L := L) hL e6 hlc (q := pos l k) (k := k) (by omega) t1 t2 (by rw [q.2 14 k (by omega)]; exact t3) t5 t6 (t7.c (fun i hi => q.2 16 _ (by omega)))
      rw [if_neg (nI_ge t1 (by omega)), if_neg (nI_ge (by omega) (by omega))]
      rcases C with ⟨c', r', S', G', N', T', a1, a2, a3, a4, a5⟩ | ⟨c', r', a1, a2, a4, a5⟩
      · have p' := p.tr a4
        have q' := q.tr a5
        have ps : nI (pos l k) + nI (sp (l (pos l k))) = nI (pos l (k + 1)) := nI_add _ _
        have c2 : c'.1 2 (pos l k) = l (pos l k) := by rw [p'.1 2 _ (by omega) (by omega)]; exact hl _ t1
        rw [a1, bd_s, i_10, vl_e, ck_nI _ (by omega) (by decide), nI_clamp (by omega), c2, s_span t2, bd_s, vl_e, ps, nI_1, a2, bd_s, i_10, vl_e]
        exact ih (k + 1) c' r' S' G' N' T' (by omega) (by omega) a3 p' q'
      · have q' := q.tr a5
        have r15 : r'.1 15 k = nI (pos l k) := by rw [q'.2 15 k (by omega)]; exact t4
        rw [a1, bd_s, i_0, a2, bd_s, i_0]
        refine Or.inr ⟨c', r', pos l k, by omega, rfl, ?_, p.tr a4, q'⟩
        obtain ⟨h9, b1, b2, b3⟩ := s_backAll (h := r') (w := 1) (by omega)
        have b1 : X11_passesAll 1 0 r' = some ((), h9) := b1
        rw [b1, bd_s, bd_s, ck_nI _ (by omega) (by decide), nI_clamp (by omega), b2 15 k (by omega) (by omega), r15]
end GR
theorem RA_rst1 {T : Nat} {r r' : AH} (hT : T ≤ 24) (h : ∀ k, r'.1 17 k = r.1 17 k) : RA T (rst 1 r) (rst 1 r') := by
  refine ⟨fun k h1 h2 => ?_, fun o k h1 h2 h3 => ?_, fun t ht => ?_⟩
  · rw [rst_at, rst_at, if_neg (by omega), if_neg (by omega), if_pos (by omega), if_neg (by omega), if_neg (by omega), if_pos (by omega)]
    exact h _
  · rw [rst_at, rst_at, if_pos (by omega), if_pos (by omega)]
    exact h _
  · have key : ∀ o, o = 10 ∨ o = 11 → (rst 1 r').1 o t = (rst 1 r).1 o t := by
      intro o ho
      rw [rst_at, rst_at, if_neg (by omega), if_pos (by omega), if_neg (by omega), if_pos (by omega)]
      exact h _
    exact ⟨key 10 (Or.inl rfl), key 11 (Or.inr rfl)⟩
theorem o_ground {c r : AH} (I : Inv c r) : SimE (X10_ground c) (X11_ground r) Inv := by
  obtain ⟨⟨S, G, N, T, M⟩, hW, ⟨L, l1, l2, l3, l4⟩, ⟨n, n1, n2, n3, n4⟩, hRF, hIM⟩ := id I
  have h24 := T24 M
  obtain ⟨l, el⟩ : ∃ l : Nat → Int32, l = fun k => c.1 2 k := ⟨_, rfl⟩
  have hl : ∀ k, k < L → c.1 2 k = l k := fun k _ => by rw [el]
  have hl' : ∀ k, k < L → r.1 13 k = l k := fun k hk => by rw [← hl k hk]; exact (l4 k hk).symm
  obtain ⟨r0, er0⟩ : ∃ r0, r0 = sI (sI r 0 22 0) 0 23 0 := ⟨_, rfl⟩
  have F0 : GF r r0 := by
    rw [er0]
    exact ⟨fun o k _ _ _ h => by rw [sI_n (by omega), sI_n (by omega)], rfl⟩
  have P := l_parse (l := l) (c := c) (r := r) l1 l2 hl l3 hl' FU FU 0 0 0 r0 (by show L + 3 < 0 + FU; unfold FU; omega) (by show L + 60 < 0 + FU; unfold FU; omega) (Nat.zero_le _) (Nat.le_refl _) (by rw [er0, sI_n (by omega), sI_y]; rfl) (by rw [er0, sI_y]; rfl) F0 (fun k hk => absurd hk (by omega))
  have eC : X10_ground c = bd (X10_firstBadLetter_l9 FU 0 0 0 (nI 0) c) fun r1 h2 => if r1 = -1 then bd (X10_statementsInMind h2) fun r3 h4 => X10_ground_j22 r3 h4 else X10_ground_j22 (-1000 - r1) h2 := rfl
  have eR : X11_ground r = X11_ground_l12 FU 1 r0 := by rw [er0]; rfl
  rw [eC, eR]
  rcases P with ⟨r', e9, b1, b2, b3, b4, b5⟩ | ⟨r', K, b1, b2, b3, b4, b5, b6, b7⟩
  · have b1 : X10_firstBadLetter_l9 FU 0 0 0 (nI 0) c = _ := b1
    have ne : ¬ nI e9 = -1 := fun h => by
      have : (nI e9).toInt = (-1 : Int32).toInt := by rw [h]
      rw [toInt_nI (by omega)] at this
      have t1 : (-1 : Int32).toInt = -1 := rfl
      omega
    have t1000 : (-1000 : Int32).toInt = -1000 := rfl
    have t0 : (0 : Int32).toInt = 0 := rfl
    have neg : -1000 - nI e9 < 0 := by
      rw [fa_lt, fb_subI (by rw [toInt_nI (by omega)]; omega) (by rw [toInt_nI (by omega)]; omega), toInt_nI (by omega)]
      omega
    rw [b1, bd_s, if_neg ne, b2]
    unfold X10_ground_j22 X11_ground_j60
    rw [vl_e, if_pos neg, vl_e, i_0, sI_n (by omega), b4]
    have gk : ∀ o k, o ≠ 14 → o ≠ 15 → o ≠ 16 → ¬ (o = 0 ∧ (k = 21 ∨ k = 22 ∨ k = 23)) → (sI r' 0 21 0).1 o k = r.1 o k := fun o k h1 h2 h3 h4 => by rw [sI_n (by omega)]; exact b5.1 o k h1 h2 h3 (by omega)
    refine SimE.mk' rfl rfl rfl (inv_end I ⟨S, G, N, T, MR_k M (fun o k h1 h2 => by rw [sI_n (by omega)]) (fun _ _ _ => rfl) ⟨fun k h1 h2 => gk 0 k (by omega) (by omega) (by omega) (by omega), fun o k h1 h2 _ => gk o k (by omega) (by omega) (by omega) (by omega), fun t _ => ⟨gk 10 t (by omega) (by omega) (by omega) (by omega), gk 11 t (by omega) (by omega) (by omega) (by omega)⟩⟩⟩ sI_y sI_y (by rw [sI_n (by omega)]) (gk 0 34 (by omega) (by omega) (by omega) (by omega)) (fun k => by rw [sI_n (by omega)]) (fun k => gk 23 k (by omega) (by omega) (by omega) (by omega)) ⟨by rw [sI_n (by omega)], fun k => by rw [sI_n (by omega)], fun o k h1 h2 => by rw [sI_n (by omega)], fun _ _ _ => rfl, fun _ _ _ => rfl⟩ ⟨gk 0 25 (by omega) (by omega) (by omega) (by omega), fun k => gk 1 k (by omega) (by omega) (by omega) (by omega), fun k _ => gk 17 k (by omega) (by omega) (by omega) (by omega)⟩)
  · have b1 : X10_firstBadLetter_l9 FU 0 0 0 (nI 0) c = _ := b1
    obtain ⟨ra, era⟩ : ∃ ra, ra = sI r' 0 21 0 := ⟨_, rfl⟩
    have ga : ∀ o k, o ≠ 14 → o ≠ 15 → o ≠ 16 → ¬ (o = 0 ∧ (k = 21 ∨ k = 22 ∨ k = 23)) → ra.1 o k = r.1 o k := fun o k h1 h2 h3 h4 => by rw [era, sI_n (by omega)]; exact b7.1 o k h1 h2 h3 (by omega)
    obtain ⟨rb, k1, k2, k3, k4, k5⟩ := s_keepAll (h := ra) (w := 1) (by omega)
    have k1 : X11_passesAll 1 1 ra = some ((), rb) := k1
    have gb : ∀ o k, o ≠ 14 → o ≠ 15 → o ≠ 16 → o ≠ 17 → ¬ (o = 0 ∧ (k = 21 ∨ k = 22 ∨ k = 23 ∨ k = 26 ∨ k = 27)) → rb.1 o k = r.1 o k := fun o k h1 h2 h3 h5 h4 => by rw [k2 o k h5 (by omega)]; exact ga o k h1 h2 h3 (by omega)
    have rab : RA T r rb := ⟨fun k h1 h2 => gb 0 k (by omega) (by omega) (by omega) (by omega) (by omega), fun o k h1 h2 _ => gb o k (by omega) (by omega) (by omega) (by omega) (by omega), fun t _ => ⟨gb 10 t (by omega) (by omega) (by omega) (by omega) (by omega), gb 11 t (by omega) (by omega) (by omega) (by omega) (by omega)⟩⟩
    have M1 : MR 52 (mcp 52 42 c) rb S G N T := MR_mcp (MR_r rab M) h24
    have kt : ∀ o k, o = 14 ∨ o = 15 ∨ o = 16 → rb.1 o k = r'.1 o k := fun o k h => by rw [k2 o k (by omega) (by omega), era, sI_n (by omega)]
    have T1 : TOLD l L rb K := fun k hk => by
      obtain ⟨t1, t2, t3, t4, t5, t6, t7⟩ := b6 k hk
      exact ⟨t1, t2, by rw [kt 14 k (by omega)]; exact t3, by rw [kt 15 k (by omega)]; exact t4, t5, t6, t7.c (fun i hi => kt 16 _ (by omega))⟩
    have r23 : rb.1 0 23 = nI K := by rw [k2 0 23 (by omega) (by omega), era, sI_n (by omega)]; exact b5
    have Q := l_mind (l := l) (c1 := mcp 52 42 c) (r1 := rb) l1 (by rw [mcp_ne (by omega)]; exact l2) (fun k hk => by rw [mcp_ne (by omega)]; exact hl k hk) b3 b4 T1 r23 FU 0 (mcp 52 42 c) rb S G N T (by unfold FU; omega) (Nat.zero_le _) M1 JC.rf KR.rf
    have e60 : X11_ground_j60 1 r' = X11_ground_l86 FU 0 rb := by
      unfold X11_ground_j60
      rw [vl_e, i_10, ← era, k1, bd_s]
    have eM : X10_statementsInMind c = X10_statementsInMind_l15 FU 0 0 (mcp 52 42 c) := by
      unfold X10_statementsInMind
      rw [s_mcp (by omega) c, bd_s]
    have pc : ∀ c', JC (mcp 52 42 c) c' → JC c c' := fun c' h => JC.cp.tr h
    rw [b1, bd_s, if_pos rfl, b2, e60, eM]
    rcases Q with ⟨c', r2, S', G', N', T', a1, a2, a3, a4, a5⟩ | ⟨c', r2, q, hq, a1, a2, a4, a5⟩
    · have a1 : X10_statementsInMind_l15 FU 0 0 (mcp 52 42 c) = _ := a1
      have a2 : X11_ground_l86 FU 0 rb = _ := a2
      have p := pc c' a4
      have h24' := T24' a3
      rw [a1, a2, bd_s]
      unfold X10_ground_j22
      rw [vl_e, if_neg (nI_pos (by omega)), s_mcp (by omega) _, bd_s]
      have M2 : MR 52 (sI c' 0 6 0) r2 S' G' N' T' := MR_cc a3 (fun k _ => by rw [sI_n (by omega)]) (fun i k _ _ _ => by rw [sI_n (by omega)]) (fun _ _ => rfl) (fun t _ => ⟨by rw [sI_n (by omega)], by rw [sI_n (by omega)]⟩)
      have cc : ∀ o k, (o < 5 ∨ (62 ≤ o ∧ o < 72)) → ¬ (o = 0 ∧ (k = 6 ∨ k = 17)) → (mcp 42 52 (sI c' 0 6 0)).1 o k = c.1 o k := fun o k h1 h2 => by rw [mcp_ne (by omega), sI_n (by omega)]; exact p.1 o k (by omega) (by omega)
      refine SimE.mk' rfl rfl rfl (inv_end I ⟨S', G', N', T', MR_mcp M2 h24'⟩ (by rw [mcp_ne (by omega), sI_y]) ?_ (cc 0 8 (by omega) (by omega)) ?_ (fun k => cc 3 k (by omega) (by omega)) (fun k => ?_) ⟨cc 0 4 (by omega) (by omega), fun k => cc 4 k (by omega) (by omega), fun o k h1 h2 => cc o k (by omega) (by omega), fun o h1 h2 => by rw [mcp_ne2 (by omega)]; exact p.2.1 o (by omega), fun o h1 h2 => p.2.2 o h1 h2⟩ ⟨?_, fun k => ?_, fun k hk => ?_⟩)
      · rw [a5.1 21 (by omega), k2 0 21 (by omega) (by omega), era, sI_y]
      · rw [a5.1 34 (by omega)]; exact gb 0 34 (by omega) (by omega) (by omega) (by omega) (by omega)
      · rw [a5.2 23 k (by omega)]; exact gb 23 k (by omega) (by omega) (by omega) (by omega) (by omega)
      · rw [a5.1 25 (by omega)]; exact gb 0 25 (by omega) (by omega) (by omega) (by omega) (by omega)
      · rw [a5.2 1 k (by omega)]; exact gb 1 k (by omega) (by omega) (by omega) (by omega) (by omega)
      · rw [a5.2 17 k (by omega), k4 k (by omega)]; exact ga 17 k (by omega) (by omega) (by omega) (by omega)
    · have a1 : X10_statementsInMind_l15 FU 0 0 (mcp 52 42 c) = _ := a1
      have a2 : X11_ground_l86 FU 0 rb = _ := a2
      have p := pc c' a4
      obtain ⟨r3, d1, d2, d3, d4, d5⟩ := s_backAll (h := r2) (w := 1) (by omega)
      have d1 : X11_passesAll 1 0 r2 = some ((), r3) := d1
      have neg : -2000 - nI q < 0 := by
        have t2 : (-2000 : Int32).toInt = -2000 := rfl
        have t0 : (0 : Int32).toInt = 0 := rfl
        rw [fa_lt, fb_subI (by rw [toInt_nI (by omega)]; omega) (by rw [toInt_nI (by omega)]; omega), toInt_nI (by omega)]
        omega
      rw [a1, a2, bd_s, d1, bd_s]
      unfold X10_ground_j22
      rw [vl_e, if_pos neg]
      have ra2 : RA T r r3 := by
        have x1 : RA T r ra := ⟨fun k h1 h2 => ga 0 k (by omega) (by omega) (by omega) (by omega), fun o k h1 h2 _ => ga o k (by omega) (by omega) (by omega) (by omega), fun t _ => ⟨ga 10 t (by omega) (by omega) (by omega) (by omega), ga 11 t (by omega) (by omega) (by omega) (by omega)⟩⟩
        have x2 : RA T ra (rst 1 rb) := RA_keep h24 k5
        have x3 : RA T (rst 1 rb) (rst 1 r2) := RA_rst1 h24 (fun k => a5.2 17 k (by omega))
        have x4 : RA T (rst 1 r2) r3 := RA_back h24 d5
        exact ((x1.tr x2).tr x3).tr x4
      refine SimE.mk' rfl rfl rfl (inv_end I ⟨S, G, N, T, MR_k M (fun o k h1 h2 => by rw [sI_n (by omega)]; exact p.1 o k (by omega) (by omega)) (fun o h1 h2 => p.2.1 o (by omega)) ra2⟩ sI_y ?_ ?_ ?_ (fun k => ?_) (fun k => ?_) ⟨?_, fun k => ?_, fun o k h1 h2 => ?_, fun o h1 h2 => p.2.1 o (by omega), fun o h1 h2 => p.2.2 o h1 h2⟩ ⟨?_, fun k => ?_, fun k hk => ?_⟩)
      · rw [d2 0 21 (by omega) (by omega), a5.1 21 (by omega), k2 0 21 (by omega) (by omega), era, sI_y]
      · rw [sI_n (by omega)]; exact p.1 0 8 (by omega) (by omega)
      · rw [d2 0 34 (by omega) (by omega), a5.1 34 (by omega)]; exact gb 0 34 (by omega) (by omega) (by omega) (by omega) (by omega)
      · rw [sI_n (by omega)]; exact p.1 3 k (by omega) (by omega)
      · rw [d2 23 k (by omega) (by omega), a5.2 23 k (by omega)]; exact gb 23 k (by omega) (by omega) (by omega) (by omega) (by omega)
      · rw [sI_n (by omega)]; exact p.1 0 4 (by omega) (by omega)
      · rw [sI_n (by omega)]; exact p.1 4 k (by omega) (by omega)
      · rw [sI_n (by omega)]; exact p.1 o k (by omega) (by omega)
      · rw [d2 0 25 (by omega) (by omega), a5.1 25 (by omega)]; exact gb 0 25 (by omega) (by omega) (by omega) (by omega) (by omega)
      · rw [d2 1 k (by omega) (by omega), a5.2 1 k (by omega)]; exact gb 1 k (by omega) (by omega) (by omega) (by omega) (by omega)
      · rw [d2 17 k (by omega) (by omega), a5.2 17 k (by omega), k4 k (by omega)]; exact ga 17 k (by omega) (by omega) (by omega) (by omega)
