import java.util.List;

/** Holds every answer over many programs, right and wrong ones, against the Reference. */
public final class AgainstReferenceTest {
    private static final int ROUNDS = 12000;
    private static final int[] compiles = new int[6];
    private static final int[] runs = new int[6];

    public static void main(String[] args) {
        for (int seed = 0; seed < ROUNDS; seed++) {
            round(seed);
        }
        // A round of programs that never meets an answer would test nothing of it.
        for (int answer = 0; answer < 6; answer++) {
            Check.due("runs with answer " + answer + " were met", runs[answer] > 50, true);
            Check.due("compiles with answer " + answer + " were met",
                    compiles[answer] > 50, answer != RegisterCompiler.NOTHING);
        }
        Check.finish();
    }

    private static void round(int seed) {
        Programs programs = new Programs(seed);
        RegisterCompiler x = new RegisterCompiler(programs.below(9) - 1);
        Reference reference = new Reference();
        for (int part = 0; part < 2; part++) {
            List<int[]> program = programs.program();
            if (programs.below(3) == 0) {
                programs.spoil(program);
            }
            compileBoth("seed " + seed + ", program " + part, x, reference, program);
            for (int run = 0; run < 2; run++) {
                runBoth("seed " + seed + ", program " + part + ", run " + run, x, reference, programs);
            }
        }
    }

    private static void compileBoth(String where, RegisterCompiler x, Reference reference, List<int[]> program) {
        x.wipe();
        int length = Math.min(program.size(), 120);
        int[] kinds = new int[length];
        int[] values = new int[length];
        for (int i = 0; i < length; i++) {
            kinds[i] = program.get(i)[0];
            values[i] = program.get(i)[1];
            Check.due(where + " token " + i, x.token(kinds[i], values[i]), true);
        }
        int due = reference.compile(kinds, values);
        compiles[due]++;
        Check.due(where + " compile()", x.compile(), due);
        Check.due(where + " place()", x.place(), reference.place);
    }

    private static void runBoth(String where, RegisterCompiler x, Reference reference, Programs programs) {
        int i = programs.below(18) - 1;
        int v = programs.number();
        boolean inside = i >= 0 && i < 16;
        Check.due(where + " store(" + i + ", " + v + ")", x.store(i, v), inside);
        if (inside) {
            reference.m[i] = v;
        }
        int f = programs.below(5) == 0 ? programs.below(6) - 1 : programs.below(Math.max(1, reference.functionCount()));
        int[] given = {programs.number(), programs.number(), programs.number()};
        int due = reference.run(f, given);
        runs[due]++;
        Check.due(where + " run(" + f + ", ..)", x.run(f, given[0], given[1], given[2]), due);
        Check.due(where + " result()", x.result(), reference.result);
        Check.due(where + " endedAt()", x.endedAt(), reference.endedAt);
        Check.due(where + " used()", x.used(), reference.used);
        Check.due(where + " printed()", x.printed(), reference.printed.size());
        for (int k = 0; k < 26; k++) {
            int output = k < 24 && k < reference.printed.size() ? reference.printed.get(k) : 0;
            Check.due(where + " output(" + k + ")", x.output(k), output);
        }
        for (int k = 0; k < 16; k++) {
            Check.due(where + " memory(" + k + ")", x.memory(k), reference.m[k]);
        }
    }
}
