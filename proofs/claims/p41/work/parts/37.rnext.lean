noncomputable section
end

