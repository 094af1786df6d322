/-! THE LAW: rows for booleans and questions; the state goes on -/
theorem lg_cmp_self (x : Int64) : lg_cmp x x = iI 0 := by
  unfold lg_cmp
  simp
  rfl
section LX
variable {w : gW} {l : Launch} {y : MethodName} {cc : ByteArray} {nL : Nat} {ret : Option FieldType} {p : Program} {e : Env} {R : Room} {s : State} {m : MethodId} {args : Array Value} {below : List Frame} {meth : Method} {c : Code} {Q : State → Prop}
variable {h : gH} {k u : Nat} {lo lo' : List (Option Value)} {st : List Value} {pc : Nat}
/-- v != 0, as the compiler writes it -/
theorem e_bool (C : gE w y cc nL ret p s m args meth c) {v : Int} (hv : -2147483648 ≤ v ∧ v < 2147483648) {o1 o2 : Int} (T0 T1 : Nat) (d1 : decode cc pc = .ok (.ifCond .eq o1, 3)) (h1 : (pc : Int) + o1 = (T0 : Int)) (d2 : decode cc (pc + 3) = .ok (.iconst 1, 1)) (d3 : decode cc (pc + 4) = .ok (.goto o2, 3)) (h3 : ((pc + 4 : Nat) : Int) + o2 = (T1 : Int)) (d4 : decode cc T0 = .ok (.iconst 0, 1)) (hT : T0 + 1 = T1)
    (kk : gG w m nL (eW p l e R s m args below meth c Q) h k u lo (.int (iI (if v = 0 then 0 else 1)) :: st) T1) : gG w m nL (eW p l e R s m args below meth c Q) h k u lo (.int (iI v) :: st) pc := by
  refine e_if_eq C T0 d1 h1 hv (fun q => ?_) (fun q => ?_)
  · rw [if_pos q] at kk
    subst hT
    exact e_iconst C d4 kk
  · rw [if_neg q] at kk
    refine e_iconst C d2 ?_
    exact e_goto C T1 d3 h3 kk
end LX
section LY
variable {w : gW} {l : Launch} {h h' : gH} {k u : Nat} {S Y : gS} {s : Nat → Nat} {A : List gCE} {B : List gOE} {nm ns : Nat} {c : Int}
theorem qSt.mono (H : qSt h k u S Y s A B nm ns c) : qSt h k u S Y s A B nm ns (c + 1) := by
  obtain ⟨H1, H2, H3, H4, H5, ⟨a1, a2, a3, ⟨a4, a5⟩, a6, a7, a8⟩, H7, H8⟩ := H
  exact ⟨H1, H2, H3, H4, H5, ⟨a1, a2, a3, ⟨a4, by omega⟩, a6, a7, a8⟩, by omega, by omega⟩
/-- a question to both -/
theorem qSt.ask (H : qSt h k u S Y s A B nm ns c) (hR : RX Y s A B h') (hF : FrX h h') : gShM h' ∧ gwr h' S = h' ∧ qSt (gwr h' (su S 0 0 0)) k u (su S 0 0 0) Y s A B nm ns (c + 1) := by
  obtain ⟨H1, H2, H3, H4, H5, H6, H7, H8⟩ := H
  have g1 := H2.fr hF (by omega)
  have k47 := hF.2 47 (by omega) H5
  exact ⟨g1, gwr_fr hF (by omega) H3, hR.wr g1 _, g1, gwr_wr h' _ _, by show gK h' 47 = _; rw [k47.1]; exact H4, by show 47 ≤ gn h'; have := hF.1; omega, qj_thr 0 H6, by show (k : Int) ≤ 100 + 8 * (c + 1) + 16 * S 0 1; omega, by show (u : Int) ≤ 5000 + 64 * (c + 1) + 64 * S 0 1; omega⟩
/-- where the loop goes on -/
def qNx (w : gW) (m : MethodId) (Wp : Heap → List Loc → Nat → Nat → JFrame → Prop) (cn : Nat) (pc : Nat) : Prop :=
  ∀ (h : gH) (k u : Nat) (S Y : gS) (s : Nat → Nat) (A : List gCE) (B : List gOE) (nm ns : Nat) (z5 z6 : Option Value), qSt h k u S Y s A B nm ns ((cn : Int) + 1) → gG w m 7 Wp h k u [some (.ref 0), some (.ref 1), some (.ref 34), some (.ref 47), some (.int (iI ((4 * cn : Nat) : Int))), z5, z6] [] pc
theorem iI_r (x : Int32) : -2147483648 ≤ x.toInt ∧ x.toInt < 2147483648 := ⟨x.le_toInt, x.toInt_lt⟩
end LY
