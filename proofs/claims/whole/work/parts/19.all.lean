/-! EVERY STEP IS SOUND, so is all that the small machine answers -/
section ALL
variable {l : Launch} {D : va_G} {B b L : Nat} {xs : Nat → Int32} {k0 k1 : Nat} {O : State → Prop}
theorem mjSw_pairs (pc : Int) (d : Nat) (dd : Int) (hdd : pc + dd = d) (x : Int32) (k : Nat → mjO) (r : Value × mjS) : ∀ (ps : List (Int × Int)), ps.all (fun o => decide (0 ≤ o.1 ∧ o.1 ≤ 2000 ∧ 0 ≤ pc + o.2)) = true → mjSw (mjPrs pc ps) d x k = some r →
    ∃ (t : Nat) (off : Int), Op.lookupswitch.offset ps dd x.toInt = off ∧ pc + off = t ∧ k t = some r := by
  intro ps
  induction ps with
  | nil => intro _ h; exact ⟨d, dd, rfl, hdd, h⟩
  | cons o ps ih =>
    intro ha h
    obtain ⟨a, o⟩ := o
    simp only [List.all_cons, Bool.and_eq_true, decide_eq_true_eq] at ha
    obtain ⟨⟨a1, a2, a3⟩, ha⟩ := ha
    have h : (if x = Int32.ofInt a then k (pc + o).toNat else mjSw (mjPrs pc ps) d x k) = some r := h
    have he : (Int32.ofInt a).toInt = a := Int32.toInt_ofInt_of_le (by omega) (by omega)
    by_cases hx : x = Int32.ofInt a
    · rw [if_pos hx] at h
      refine ⟨_, o, ?_, ?_, h⟩
      · rw [Op.lookupswitch.offset_cons, if_pos (by rw [hx, he])]
      · omega
    · rw [if_neg hx] at h
      have hne : ¬ a = x.toInt := fun q => hx (Int32.toInt_inj.mp (q.symm.trans he.symm))
      obtain ⟨t, off, h1, h2, h3⟩ := ih ha h
      exact ⟨t, off, by rw [Op.lookupswitch.offset_cons, if_neg hne]; exact h1, h2, h3⟩
/-- what a method's end needs -/
theorem mjEnd {c : Nat} {A : Nat → Prop} {f : Nat → Nat} {cA : Nat → ClassId} {tys : List (ClassId × FieldType)} {h : mjS} {s : State} {H : Heap} {locs : List Loc} {v : Value} {args : Array Value} (hrel : mjRel D B b L xs k0 k1 f cA tys h s A H locs) (hv : mjV (mX h) v) {w : Option Value} (hw : mjRv c (mjTr f v) = w) : ∀ t : State, t.heap = H → s.WarmedH t.vm → mjQ D B b L xs k0 k1 f (mX h) v h c A args s (.returned w) t := by
  intro t ht hW
  obtain ⟨hK, hP, hD, hS, ok⟩ := hrel
  exact ⟨⟨f, cA, tys, fun _ _ => rfl, by rw [hw], by rw [ht]; exact hP, va_K.moved hW.alike hK, hD, ok, hv⟩, hS.F ht⟩
theorem mjRet_snd {c lv pc : Nat} {ls st : List Value} {h : mjS} {v : Value} (rule : ∀ {p : Program} {e : Env} {R : Room} {s : State} {m : MethodId} {args : Array Value} {below : List Frame} {meth : Method} {cd : Code} {f : Nat → Nat} {cA : Nat → ClassId} {tys : List (ClassId × FieldType)} {A : Nat → Prop} {H : Heap} {locs : List Loc} {cells slots : Nat} {ls0 : Array Slot}, mjCtx c lv p R s m args meth cd → mjRel D B b L xs k0 k1 f cA tys h s A H locs → mjVs (mX h) st →
      W p l e R s m args below meth cd H locs cells slots (MQ below (mjQ D B b L xs k0 k1 f (mX h) v h c A) args s cells slots A) (F0 m pc ls0 (st.map (mjTr f)))) : mjSnd l D B b L xs k0 k1 O c lv pc ls st h v h := by
  refine ⟨⟨Nat.le_refl _, Nat.le_refl _⟩, fun p e R s m args below meth cd f cA tys A H locs cells slots ls0 C o hAB hA hrel hls hvl hvs hc hz => ?_⟩
  rw [Nat.sub_self, Nat.sub_self]
  exact rule C hrel hvs
end ALL
