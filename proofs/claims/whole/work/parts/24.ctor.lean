/-! CTOR, the objects -/
def objD : List Value := [.null, .null, .null, .null, .null, .null, .int 0]
def arO (f0 f1 f2 : Nat → Nat) (fs : List (Nat → Nat)) : Nat → Nat → Nat
  | 0 => f0
  | 1 => f1
  | 2 => f2
  | n + 3 => fs.getD n (fun _ => 0)
def agO (q h b t tb s sb : Nat) : Nat → Nat
  | 0 => q
  | 1 => h
  | 2 => b
  | 3 => t
  | 4 => tb
  | 5 => s
  | _ => sb
def Gz : GlbS
  | 3, 8 => -1
  | _, _ => 0
def Pz : RowsS := fun _ => Rz
theorem rowCell_own {ar : Nat → Nat → Nat} {ca : Nat → ClassId} {r c : Nat} {R : RowS} : rowCell ar ca r R c = rowCell (fun _ => ar r) ca 0 R c := by
  unfold rowCell; split <;> rfl
theorem rowO_perm {ar : Nat → Nat → Nat} {ca : Nat → ClassId} {r : Nat} : ((List.range 18).map (fun c => ((ar r c, rowCell ar ca r Rz c) : Nat × va_E))).Perm (rowO ca (ar r)) := by
  have h : (List.range 18).Perm rowOrd := by decide +kernel
  have e : (fun c => ((ar r c, rowCell ar ca r Rz c) : Nat × va_E)) = (fun c => (ar r c, rowCell (fun _ => ar r) ca 0 Rz c)) := by
    funext c; rw [rowCell_own]
  rw [e]
  exact h.map _
theorem wC_eq {ar : Nat → Nat → Nat} {ag : Nat → Nat} {ca : Nat → ClassId} {P : RowsS} {G : GlbS} : wC ar ag ca P G = (List.range 13).flatMap (fun r => (List.range 18).map (fun c => (ar r c, rowCell ar ca r (P r) c))) ++ (List.range 7).map (fun k => (ag k, glbCell ar ag ca G k)) := by
  unfold wC
  congr 1
theorem perm_fm {α β : Type} (l : List α) (f g : α → List β) (h : ∀ a ∈ l, (f a).Perm (g a)) : (l.flatMap f).Perm (l.flatMap g) := by
  induction l with
  | nil => exact List.Perm.refl _
  | cons a t ih =>
    rw [List.flatMap_cons, List.flatMap_cons]
    exact List.Perm.append (h a List.mem_cons_self) (ih (fun b hb => h b (List.mem_cons_of_mem _ hb)))
theorem perm_mid3 {α : Type} (a b c : α) (X Y t : List α) : (a :: ((X ++ ([b, c] ++ Y)) ++ t)).Perm ((X ++ Y) ++ (a :: b :: c :: t)) := by
  refine List.Perm.trans ?_ (List.perm_middle (l₁ := X ++ Y) (a := a) (l₂ := b :: c :: t)).symm
  refine List.Perm.cons a ?_
  have h1 : ((X ++ ([b, c] ++ Y)) ++ t) = X ++ (b :: c :: (Y ++ t)) := by simp
  rw [h1]
  have e1 : (X ++ (b :: c :: (Y ++ t))).Perm (b :: c :: (X ++ (Y ++ t))) := List.perm_middle.trans (List.Perm.cons b List.perm_middle)
  have e2 : ((X ++ Y) ++ (b :: c :: t)).Perm (b :: c :: ((X ++ Y) ++ t)) := List.perm_middle.trans (List.Perm.cons b List.perm_middle)
  refine e1.trans (List.Perm.trans ?_ e2.symm)
  rw [List.append_assoc]
theorem obj_perm {ca : Nat → ClassId} {us : va_W} {q h b t tb s sb : Nat} {f0 f1 f2 : Nat → Nat} {fs : List (Nat → Nat)} (hl : fs.length = 10) :
    (us ++ ((q, .inr (9, [.ref (f0 0), .ref (f1 0), .ref (f2 0), .ref h, .ref t, .ref s, .int 0])) :: (((((rowO ca f0 ++ rowO ca f1) ++ rowO ca f2) ++ (two ca h b (fun j => some ((fs.getD j (fun _ => 0)) 0)) ++ rowsO ca fs)) ++ [(t, .inr (7, [.ref tb, .int 0, .int 0, .int 0, .int 0, .int 0, .int 0, .int 0, .int (-1)])), (tb, .inl (ca 0, 600, .inl fun _ => 0))]) ++ [(s, .inr (1, [.ref sb, .int 0, .int 0, .int 0])), (sb, .inl (ca 0, 16, .inl fun _ => 0))])) : va_W).Perm (wC (arO f0 f1 f2 fs) (agO q h b t tb s sb) ca Pz Gz ++ us) := by
  refine List.perm_append_comm.trans (List.Perm.append_right us ?_)
  rw [wC_eq]
  rcases fs with _ | ⟨f3, _ | ⟨f4, _ | ⟨f5, _ | ⟨f6, _ | ⟨f7, _ | ⟨f8, _ | ⟨f9, _ | ⟨f10, _ | ⟨f11, _ | ⟨f12, _ | ⟨f13, tl⟩⟩⟩⟩⟩⟩⟩⟩⟩⟩⟩ <;> simp at hl
  have hr : ∀ r : Nat, ((List.range 18).map (fun c => ((arO f0 f1 f2 [f3, f4, f5, f6, f7, f8, f9, f10, f11, f12] r c, rowCell (arO f0 f1 f2 [f3, f4, f5, f6, f7, f8, f9, f10, f11, f12]) ca r (Pz r) c) : Nat × va_E))).Perm (rowO ca (arO f0 f1 f2 [f3, f4, f5, f6, f7, f8, f9, f10, f11, f12] r)) := fun r => rowO_perm
  have hR : ((List.range 13).flatMap (fun r => (List.range 18).map (fun c => ((arO f0 f1 f2 [f3, f4, f5, f6, f7, f8, f9, f10, f11, f12] r c, rowCell (arO f0 f1 f2 [f3, f4, f5, f6, f7, f8, f9, f10, f11, f12]) ca r (Pz r) c) : Nat × va_E)))).Perm (((rowO ca f0 ++ rowO ca f1) ++ rowO ca f2) ++ rowsO ca [f3, f4, f5, f6, f7, f8, f9, f10, f11, f12]) := by
    rw [show ((rowO ca f0 ++ rowO ca f1) ++ rowO ca f2) ++ rowsO ca [f3, f4, f5, f6, f7, f8, f9, f10, f11, f12] = (List.range 13).flatMap (fun r => rowO ca (arO f0 f1 f2 [f3, f4, f5, f6, f7, f8, f9, f10, f11, f12] r)) by
      simp only [rowsO, List.append_assoc]; rfl]
    exact perm_fm _ _ _ (fun r _ => hr r)
  refine List.Perm.trans ?_ (List.Perm.append_right _ hR.symm)
  have h3 := perm_mid3 (α := Nat × va_E) (q, .inr (9, [.ref (f0 0), .ref (f1 0), .ref (f2 0), .ref h, .ref t, .ref s, .int 0])) (h, .inr (2, [.ref b, .int 0, .int 0])) (b, .inl (ca 3, 10, .inr (.inr (.inr (.inr (fun j => some (([f3, f4, f5, f6, f7, f8, f9, f10, f11, f12].getD j (fun _ => 0)) 0))))))) ((rowO ca f0 ++ rowO ca f1) ++ rowO ca f2) (rowsO ca [f3, f4, f5, f6, f7, f8, f9, f10, f11, f12]) ([(t, .inr (7, [.ref tb, .int 0, .int 0, .int 0, .int 0, .int 0, .int 0, .int 0, .int (-1)])), (tb, .inl (ca 0, 600, .inl fun _ => 0))] ++ [(s, .inr (1, [.ref sb, .int 0, .int 0, .int 0])), (sb, .inl (ca 0, 16, .inl fun _ => 0))])
  rw [← List.append_assoc] at h3
  exact h3
