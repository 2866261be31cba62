/-! ===== printed by gen/qeqs.py: what the law's and the library's methods do between cuts ===== -/
section
variable {O : qm_O} {F : qm_F} {J L0 : Nat} {xs : List Int32} {S : qm_S}
end
