/-! ===== the machine is monotone ===== -/
def am_mC (Cl Cl' : AC) : Prop := ∀ k as M (Q Q' : AQ), (∀ r M', Q r M' → Q' r M') → Cl k as M Q → Cl' k as M Q'
set_option maxHeartbeats 4000000 in
theorem am_sem_mono {G : AG} {cx : ACx} {nL : Nat} {rt : Option FieldType} {Cl Cl' : AC} {Q Q' : AQ} {K K' : AK} (hC : am_mC Cl Cl') (hQ : ∀ r M, Q r M → Q' r M) (hK : ∀ pc l st M, K pc l st M → K' pc l st M)
    {i : Instr} {len pc : Nat} {l : AL} {st : List Value} {M : AM} (h : am_sem G cx nL rt Cl Q K i len pc l st M) : am_sem G cx nL rt Cl' Q' K' i len pc l st M := by
  have ld : ∀ npc i c, am_ld K npc i c l st M → am_ld K' npc i c l st M := fun npc i c ⟨v, h1, h2, h3⟩ => ⟨v, h1, h2, hK _ _ _ _ h3⟩
  have sto : ∀ npc i c, am_st K npc i nL c l st M → am_st K' npc i nL c l st M := by
    intro npc i c h
    unfold am_st at h ⊢
    split at h <;> first | exact h.elim | exact ⟨h.1, h.2.1, hK _ _ _ _ h.2.2⟩
  have ii : ∀ f g npc, am_ii f g K npc l st M → am_ii f g K' npc l st M := by
    intro f g npc h
    unfold am_ii at h ⊢
    split at h <;> first | exact h.elim | exact ⟨h.1, hK _ _ _ _ h.2⟩
  have ll : ∀ f g npc, am_ll f g K npc l st M → am_ll f g K' npc l st M := by
    intro f g npc h
    unfold am_ll at h ⊢
    split at h <;> first | exact h.elim | exact ⟨h.1, hK _ _ _ _ h.2⟩
  have i1 : ∀ f npc, am_i1 f K npc l st M → am_i1 f K' npc l st M := by
    intro f npc h
    unfold am_i1 at h ⊢
    split at h <;> first | exact h.elim | exact hK _ _ _ _ h
  have br : ∀ p npc t, am_br p K npc t l st M → am_br p K' npc t l st M := by
    intro p npc t h
    unfold am_br at h ⊢
    split at h <;> first | exact h.elim | exact ⟨fun z => hK _ _ _ _ (h.1 z), fun z => hK _ _ _ _ (h.2 z)⟩
  have br0 : ∀ p npc t, am_br0 p K npc t l st M → am_br0 p K' npc t l st M := by
    intro p npc t h
    unfold am_br0 at h ⊢
    split at h <;> first | exact h.elim | exact ⟨fun z => hK _ _ _ _ (h.1 z), fun z => hK _ _ _ _ (h.2 z)⟩
  have inv : ∀ v npc idx, am_inv G cx Cl K v npc idx l st M → am_inv G cx Cl' K' v npc idx l st M := fun v npc idx ⟨oc, k, n, as, rest, h1, h2, h3, h4, h5, h6⟩ => ⟨oc, k, n, as, rest, h1, h2, h3, h4, h5, hC _ _ _ _ _ (fun r M' z => hK _ _ _ _ z) h6⟩
  have rr : ∀ c, am_ret rt Q c st M → am_ret rt Q' c st M := by
    intro c h
    unfold am_ret at h ⊢
    split at h <;> first | exact h.elim | exact ⟨h.1, hQ _ _ h.2⟩
  have mm : ∀ f npc, am_mm f K npc l st M → am_mm f K' npc l st M := by
    intro f npc h
    unfold am_mm at h ⊢
    split at h <;> first | exact h.elim | exact ⟨h.1, hK _ _ _ _ h.2⟩
  have tsw : ∀ d lo hi offs, am_tsw K pc d lo hi offs l st M → am_tsw K' pc d lo hi offs l st M := by
    intro d lo hi offs h
    unfold am_tsw at h ⊢
    split at h
    · refine ⟨fun z => ?_, fun z1 z2 => ?_⟩
      · obtain ⟨t, a1, a2⟩ := h.1 z
        exact ⟨t, a1, hK _ _ _ _ a2⟩
      · obtain ⟨o, t, a1, a2, a3⟩ := h.2 z1 z2
        exact ⟨o, t, a1, a2, hK _ _ _ _ a3⟩
    · exact h.elim
  have lsw : ∀ d ps, am_lsw K pc d ps l st M → am_lsw K' pc d ps l st M := by
    intro d ps h
    unfold am_lsw at h ⊢
    split at h
    · obtain ⟨h1, t, a1, a2⟩ := h
      exact ⟨h1, t, a1, hK _ _ _ _ a2⟩
    · exact h.elim
  cases i <;> first
    | exact h.elim
    | exact ⟨h.1, hK _ _ _ _ h.2⟩
    | exact ⟨h.1, ld _ _ _ h.2⟩
    | exact ⟨h.1, sto _ _ _ h.2⟩
    | exact ⟨h.1, ii _ _ _ h.2⟩
    | exact ⟨h.1, ll _ _ _ h.2⟩
    | exact ⟨h.1, i1 _ _ h.2⟩
    | exact ⟨h.1, rr _ h.2⟩
    | exact ⟨h.1, inv _ _ _ h.2⟩
    | (obtain ⟨h1, v, h2, h3⟩ := h; exact ⟨h1, v, h2, hK _ _ _ _ h3⟩)
    | (obtain ⟨h1, v, h2, h3⟩ := h; exact ⟨h1, v, h2, br _ _ _ h3⟩)
    | (obtain ⟨h1, v, h2, h3⟩ := h; exact ⟨h1, v, h2, br0 _ _ _ h3⟩)
    | (obtain ⟨h1, v, h2, h3, h4⟩ := h; exact ⟨h1, v, h2, h3, hK _ _ _ _ h4⟩)
    | (obtain ⟨h1, h2⟩ := h
       refine ⟨h1, ?_⟩
       first | unfold am_l2i at h2 ⊢ | unfold am_lcmp at h2 ⊢ | unfold am_lsh at h2 ⊢
       split at h2 <;> first | exact h2.elim | exact hK _ _ _ _ h2)
    | (obtain ⟨h1, h2⟩ := h
       refine ⟨h1, ?_⟩
       first | unfold am_dup at h2 ⊢ | unfold am_dup2 at h2 ⊢ | unfold am_pop at h2 ⊢
       split at h2 <;> first | exact h2.elim | exact ⟨h2.1, hK _ _ _ _ h2.2⟩ | exact ⟨h2.1, h2.2.1, hK _ _ _ _ h2.2.2⟩)
    | (obtain ⟨h1, h2⟩ := h
       refine ⟨h1, ?_⟩
       first | unfold am_iast at h2 ⊢ | unfold am_lald at h2 ⊢ | unfold am_last at h2 ⊢
       split at h2 <;> first | exact h2.elim | (obtain ⟨n, a1, a2, a3⟩ := h2; exact ⟨n, a1, a2, hK _ _ _ _ a3⟩))
    | (obtain ⟨h1, h2⟩ := h
       refine ⟨h1, ?_⟩
       unfold am_alen at h2 ⊢
       split at h2 <;> first | exact h2.elim | (obtain ⟨n, a1, a2⟩ := h2; exact ⟨n, a1, hK _ _ _ _ a2⟩))
    | (obtain ⟨h1, h2⟩ := h
       refine ⟨h1, ?_⟩
       unfold am_iald at h2 ⊢
       split at h2
       · rcases h2 with ⟨n, a1, a2, a3⟩ | ⟨n, f, a1, a2, a3⟩
         · exact Or.inl ⟨n, a1, a2, hK _ _ _ _ a3⟩
         · exact Or.inr ⟨n, f, a1, a2, hK _ _ _ _ a3⟩
       · exact h2.elim)
    | (obtain ⟨h1, h2⟩ := h
       refine ⟨h1, ?_⟩
       unfold am_getf at h2 ⊢
       split at h2
       · obtain ⟨ci, k, b, fs, a1, a2, a3⟩ := h2
         refine ⟨ci, k, b, fs, a1, a2, ?_⟩
         split at a3 <;> first | exact hK _ _ _ _ a3 | exact a3.elim
       · exact h2.elim)
    | (obtain ⟨h1, h2⟩ := h
       refine ⟨h1, ?_⟩
       unfold am_putf at h2 ⊢
       split at h2
       · obtain ⟨ci, k, b, fs, a1, a2, a3, a4, a5⟩ := h2
         exact ⟨ci, k, b, fs, a1, a2, a3, a4, hK _ _ _ _ a5⟩
       · exact h2.elim)
    | (obtain ⟨h1, h2 | ⟨h3, h2⟩ | ⟨h3, h2⟩ | ⟨h3, h2⟩⟩ := h
       · exact ⟨h1, Or.inl (inv _ _ _ h2)⟩
       · refine ⟨h1, Or.inr (Or.inl ⟨h3, ?_⟩)⟩
         unfold am_copy at h2 ⊢
         split at h2
         · obtain ⟨z, n0, n1, a1, a2, a3, a4, a5, a6, a7, a8, a9⟩ := h2
           exact ⟨z, n0, n1, a1, a2, a3, a4, a5, a6, a7, a8, hK _ _ _ _ a9⟩
         · exact h2.elim
       · exact ⟨h1, Or.inr (Or.inr (Or.inl ⟨h3, mm _ _ h2⟩))⟩
       · exact ⟨h1, Or.inr (Or.inr (Or.inr ⟨h3, mm _ _ h2⟩))⟩)
    | (obtain ⟨h1, x, h2, h3, h4⟩ := h; exact ⟨h1, x, h2, h3, hK _ _ _ _ h4⟩)
    | exact tsw _ _ _ _ h
    | exact lsw _ _ h
theorem am_cl_mono {G : AG} {cc : ByteArray} {cx : ACx} {nL : Nat} {rt : Option FieldType} {Cl Cl' : AC} {Q Q' : AQ} (hC : am_mC Cl Cl') (hQ : ∀ r M, Q r M → Q' r M) {X : AK} (h : am_cl G cc cx nL rt Cl' Q' X) : am_cl G cc cx nL rt Cl Q X :=
  ⟨fun pc i len l st M hd hs => h.1 pc i len l st M hd (am_sem_mono hC hQ (fun _ _ _ _ z => z) hs), h.2⟩
theorem am_V_mono {G : AG} {cc : ByteArray} {cx : ACx} {nL : Nat} {rt : Option FieldType} {Cl Cl' : AC} {Q Q' : AQ} (hC : am_mC Cl Cl') (hQ : ∀ r M, Q r M → Q' r M) {pc : Nat} {l : AL} {st : List Value} {M : AM} (h : am_V G cc cx nL rt Cl Q pc l st M) : am_V G cc cx nL rt Cl' Q' pc l st M :=
  fun X hX => h X (am_cl_mono hC hQ hX)
theorem am_Call_mC (G : AG) : ∀ d, am_mC (am_Call G d) (am_Call G d) ∧ am_mC (am_Call G d) (am_Call G (d + 1)) := by
  intro d
  induction d with
  | zero => exact ⟨fun k as M Q Q' h z => z.elim, fun k as M Q Q' h z => z.elim⟩
  | succ d ih =>
    refine ⟨fun k as M Q Q' h ⟨y, cc, nL, rt, cx, h1, h0, h2⟩ => ⟨y, cc, nL, rt, cx, h1, h0, am_V_mono ih.1 h h2⟩, fun k as M Q Q' h ⟨y, cc, nL, rt, cx, h1, h0, h2⟩ => ⟨y, cc, nL, rt, cx, h1, h0, am_V_mono ih.2 h h2⟩⟩
theorem am_le {G : AG} {d d' : Nat} (hd : d ≤ d') : am_mC (am_Call G d) (am_Call G d') := by
  induction hd with
  | refl => exact (am_Call_mC G d).1
  | step _ ih => exact fun k as M Q Q' h z => (am_Call_mC G _).2 k as M Q' Q' (fun _ _ w => w) (ih k as M Q Q' h z)
/-- what holds behind a call, in more words -/
theorem am_Call.post {G : AG} {d k : Nat} {as : List Value} {M : AM} {Q Q' : AQ} (h : am_Call G d k as M Q) (hQ : ∀ r M', Q r M' → Q' r M') : am_Call G d k as M Q' := (am_Call_mC G d).1 k as M Q Q' hQ h
theorem am_cl_V {G : AG} {cc : ByteArray} {cx : ACx} {nL : Nat} {rt : Option FieldType} {Cl : AC} {Q : AQ} (hC : am_mC Cl Cl) : am_cl G cc cx nL rt Cl Q (am_V G cc cx nL rt Cl Q) :=
  ⟨fun pc i len l st M hd hs X hX => hX.1 pc i len l st M hd (am_sem_mono hC (fun _ _ z => z) (fun _ _ _ _ z => z X hX) hs), fun pc l l' st M hl h X hX => hX.2 pc l l' st M hl (h X hX)⟩
