section GH
variable {g : Int} {K : r_K}
def r_sto4 (E : b_E) (c : Nat) (x : b_T) (e : b_N) : List b_Q := match Nat.beq c 99, e with
  | true, (false, w) => r_st4 E x w
  | _, _ => []
def r_rdj (E : b_E) (a : Nat) (x : b_T) : Option (Int × Int) := match r_rdi6 E a x with
  | some q => some q
  | none => r_rdi E a x
def r_hk : b_Hk := (fun E c x e => match E.2.2.2.2 with | [] => [] | _ => r_sto E c x e ++ (r_sto3 E c x e ++ (r_sto4 E c x e ++ (r_sto5 E c x e ++ r_sto6 E c x e))), r_pur, fun E id us => r_hav E id us || (r_hav2 E id us || (r_hav3 E id us || (r_hav4 E id us || (r_hav5 E id us || r_hav6 E id us)))), fun E => r_imp E || (match E.2.2.2.2 with | [] => false | _ => r_imp2 E || (r_imp3 E || (r_imp4 E || (r_imp5 E || (r_imp6 E || r_imp7 E))))), r_cas, r_rdb, r_rdj)
theorem r_hk_ok {I : List b_I} (hI : r_Iok I) (hK : r_K1 K) : bg_Hk I (r_F K g) r_hk := by
  refine ⟨?_, ?_, ?_, ?_, ?_, ?_⟩
  · intro v E m m1 c x e j hE hM hM1 hx hm he t ht
    have ht : t ∈ (match E.2.2.2.2 with | [] => [] | _ => r_sto E c x e ++ (r_sto3 E c x e ++ (r_sto4 E c x e ++ (r_sto5 E c x e ++ r_sto6 E c x e)))) := ht
    split at ht
    · cases ht
    rcases List.mem_append.mp ht with ht | ht
    · unfold r_sto at ht
      split at ht
      · cases ht
      · rcases List.mem_append.mp ht with ht | ht
        · exact r_stC_ok hE hx hm he t ht
        · rcases List.mem_append.mp ht with ht | ht
          · exact r_stJ_ok hE hx hm t ht
          · exact r_stT_ok hE hx hm he t ht
    · rcases List.mem_append.mp ht with ht | ht
      · exact r_sto3_ok hI hM hM1 hE hx hm he t ht
      · rcases List.mem_append.mp ht with hq | hq
        rotate_left
        · rcases List.mem_append.mp hq with hq | hq
          · exact r_sto5_ok hE hx hm he t hq
          · exact r_sto6_ok hE hx hm he t hq
        unfold r_sto4 at hq
        split at hq
        · have hc : c = 99 := Nat.eq_of_beq_eq_true (by assumption)
          subst hc
          obtain ⟨z, z1, z2⟩ := he
          refine r_st4_ok hE hx hm ?_ t hq
          unfold q_i
          rw [z1]
          exact z2
        · cases hq
  · intro v nL pc len i l st pc1 l1 st1 sa sa1 m h1 h2 h3 t ht
    exact r_pur_ok h1 h2 h3 t ht
  · intro v E m id us zs hE _ hz h
    have h : (r_hav E id us || (r_hav2 E id us || (r_hav3 E id us || (r_hav4 E id us || (r_hav5 E id us || r_hav6 E id us))))) = true := h
    rw [Bool.or_eq_true, Bool.or_eq_true, Bool.or_eq_true, Bool.or_eq_true, Bool.or_eq_true] at h
    rcases h with h | h | h | h | h | h
    · exact r_hav_ok hE hz h
    · exact r_hav2_ok hE hz h
    · exact r_hav3_ok hE hz h
    · exact r_hav4_ok hE hz h
    · exact r_hav5_ok hE hz h
    · exact r_hav6_ok hE hz h
  · intro v E m hE _ h
    have h : (r_imp E || (match E.2.2.2.2 with | [] => false | _ => r_imp2 E || (r_imp3 E || (r_imp4 E || (r_imp5 E || (r_imp6 E || r_imp7 E)))))) = true := h
    rw [Bool.or_eq_true] at h
    rcases h with h | h
    · exact r_imp_ok hE h
    · split at h
      · cases h
      · rw [Bool.or_eq_true, Bool.or_eq_true, Bool.or_eq_true, Bool.or_eq_true, Bool.or_eq_true] at h
        rcases h with h | h | h | h | h | h
        · exact r_imp2_ok hE h
        · exact r_imp3_ok hE h
        · exact r_imp4_ok hK hE h
        · exact r_imp5_ok hE h
        · exact r_imp6_ok hE h
        · exact r_imp7_ok hE h
  · intro v k E as m hE _ hne
    exact r_cas_ok hE hne
  · refine ⟨?_, ?_⟩
    · intro v E m a x j z q hE _ hx hz h
      exact r_rdb_ok hE hx hz h
    · intro v E m a x j z q hE _ hx hz h
      have h : (match r_rdi6 E a x with | some q => some q | none => r_rdi E a x) = some q := h
      split at h
      · rename_i q1 h1
        have := Option.some.inj h
        subst this
        exact r_rdi6_ok hE hx hz h1
      · exact r_rdi_ok hE hx hz h
end GH
