import java.util.ArrayList;
import java.util.HashSet;
import java.util.List;
import java.util.Set;

/**
 * The language of the document told in another way, to hold RegisterCompiler against: the place of a
 * SYNTAX by Earley's recogniser over the grammar as it is written, and the meaning by walking through
 * the tokens themselves, without any code in between.
 */
final class Reference {
    private static final int SMALL_NUM = 42;
    private static final int PROGRAM = 50, FUNCTION = 51, BLOCK = 52, STATEMENTS = 53, STATEMENT = 54;
    private static final int CALLING = 55, ARGUMENTS = 56, EXPRESSION = 57, OPERATOR = 58, UNARY = 59;
    private static final List<int[]> RULES = rules();

    private static final int[][] LEVELS = {{13, 13}, {14, 14}, {15, 15}, {16, 16}, {17, 17}, {18, 19},
        {20, 23}, {24, 26}, {27, 28}, {29, 31}};

    private static final int NORMAL = 0, BROKEN = 1, CONTINUED = 2, RETURNED = 3;

    /** Thrown where a run ends other than by DONE. */
    private static final class Ended extends RuntimeException {
        private static final long serialVersionUID = 1L;
        final int how;
        final int place;

        Ended(int how, int place) {
            super(null, null, false, false);
            this.how = how;
            this.place = place;
        }
    }

    final int[] m = new int[16];
    final List<Integer> printed = new ArrayList<>();
    int place = -1;
    int result = 0;
    int endedAt = -1;
    int used = 0;

    private int[] kind = {};
    private int[] value = {};
    private List<Integer> functions = new ArrayList<>();
    private int active = 0;
    private int returned = 0;

    // ---- compile

    int compile(int[] kinds, int[] values) {
        kind = kinds;
        value = values;
        functions = new ArrayList<>();
        place = wrongToken(kinds, values);
        if (place >= 0) {
            return RegisterCompiler.SYNTAX;
        }
        List<Integer> found = new ArrayList<>();
        for (int i = 0; i < kind.length; i++) {
            if (kind[i] == 41) {
                found.add(i);
            }
        }
        int answer = fault(found);
        if (answer == RegisterCompiler.OK) {
            functions = found;
        }
        return answer;
    }

    private int fault(List<Integer> found) {
        for (place = 0; place < kind.length; place++) {
            if ((kind[place] == 37 || kind[place] == 38) && !isInLoop(place)) {
                return RegisterCompiler.LOOP;
            }
        }
        for (place = 0; place < kind.length; place++) {
            if (kind[place] == 2 && value[place] >= found.size()) {
                return RegisterCompiler.UNKNOWN;
            }
        }
        for (place = 0; place < kind.length; place++) {
            if (kind[place] == 2 && arguments(place).size() != value[found.get(value[place]) + 1]) {
                return RegisterCompiler.COUNT;
            }
        }
        place = -1;
        return RegisterCompiler.OK;
    }

    private boolean isInLoop(int at) {
        for (int i = 0; i < at; i++) {
            if (kind[i] == 36 && at < statementEnd(i)) {
                return true;
            }
        }
        return false;
    }

    int functionCount() {
        return functions.size();
    }

    // ---- Earley's recogniser

    private static List<int[]> rules() {
        List<int[]> rules = new ArrayList<>(List.of(
                new int[] {PROGRAM, FUNCTION},
                new int[] {PROGRAM, FUNCTION, FUNCTION},
                new int[] {PROGRAM, FUNCTION, FUNCTION, FUNCTION},
                new int[] {PROGRAM, FUNCTION, FUNCTION, FUNCTION, FUNCTION},
                new int[] {FUNCTION, 41, SMALL_NUM, BLOCK},
                new int[] {BLOCK, 8, STATEMENTS, 9},
                new int[] {STATEMENTS},
                new int[] {STATEMENTS, STATEMENTS, STATEMENT},
                new int[] {STATEMENT, BLOCK},
                new int[] {STATEMENT, 1, 12, EXPRESSION, 10},
                new int[] {STATEMENT, 3, 6, EXPRESSION, 7, 12, EXPRESSION, 10},
                new int[] {STATEMENT, CALLING, 10},
                new int[] {STATEMENT, 34, 4, EXPRESSION, 5, STATEMENT},
                new int[] {STATEMENT, 34, 4, EXPRESSION, 5, STATEMENT, 35, STATEMENT},
                new int[] {STATEMENT, 36, 4, EXPRESSION, 5, STATEMENT},
                new int[] {STATEMENT, 37, 10},
                new int[] {STATEMENT, 38, 10},
                new int[] {STATEMENT, 39, EXPRESSION, 10},
                new int[] {STATEMENT, 40, EXPRESSION, 10},
                new int[] {CALLING, 2, 4, 5},
                new int[] {CALLING, 2, 4, ARGUMENTS, 5},
                new int[] {ARGUMENTS, EXPRESSION},
                new int[] {ARGUMENTS, ARGUMENTS, 11, EXPRESSION},
                new int[] {EXPRESSION, UNARY},
                new int[] {EXPRESSION, EXPRESSION, OPERATOR, UNARY},
                new int[] {UNARY, 28, UNARY},
                new int[] {UNARY, 32, UNARY},
                new int[] {UNARY, 33, UNARY},
                new int[] {UNARY, 0},
                new int[] {UNARY, 1},
                new int[] {UNARY, CALLING},
                new int[] {UNARY, 3, 6, EXPRESSION, 7},
                new int[] {UNARY, 4, EXPRESSION, 5}));
        for (int operator = 13; operator <= 31; operator++) {
            rules.add(new int[] {OPERATOR, operator});
        }
        return rules;
    }

    /** An item: how much of a rule has been seen since a token. */
    private record Item(int rule, int seen, int since) {
        int following() {
            int[] parts = RULES.get(rule);
            return seen + 1 < parts.length ? parts[seen + 1] : -1;
        }

        Item advanced() {
            return new Item(rule, seen + 1, since);
        }
    }

    private static int wrongToken(int[] kinds, int[] values) {
        List<List<Item>> sets = new ArrayList<>();
        List<Item> start = new ArrayList<>();
        predict(start, PROGRAM, 0);
        sets.add(start);
        for (int at = 0; at < kinds.length; at++) {
            complete(sets, at);
            List<Item> reached = new ArrayList<>();
            for (Item item : sets.get(at)) {
                int wanted = item.following();
                boolean small = kinds[at] == 0 && values[at] >= 0 && values[at] <= 3;
                if (wanted == kinds[at] || wanted == SMALL_NUM && small) {
                    reached.add(item.advanced());
                }
            }
            if (reached.isEmpty()) {
                return at;
            }
            sets.add(reached);
        }
        complete(sets, kinds.length);
        for (Item item : sets.get(kinds.length)) {
            if (RULES.get(item.rule())[0] == PROGRAM && item.following() < 0) {
                return -1;
            }
        }
        return kinds.length;
    }

    private static void predict(List<Item> items, int symbol, int at) {
        for (int rule = 0; rule < RULES.size(); rule++) {
            if (RULES.get(rule)[0] == symbol) {
                items.add(new Item(rule, 0, at));
            }
        }
    }

    private static void complete(List<List<Item>> sets, int at) {
        List<Item> items = sets.get(at);
        Set<Item> known = new HashSet<>(items);
        for (int i = 0; i < items.size(); i++) {
            Item item = items.get(i);
            List<Item> more = new ArrayList<>();
            if (item.following() >= PROGRAM) {
                predict(more, item.following(), at);
                if (item.following() == STATEMENTS) {
                    more.add(item.advanced());
                }
            } else if (item.following() < 0) {
                int whole = RULES.get(item.rule())[0];
                for (Item waiting : sets.get(item.since())) {
                    if (waiting.following() == whole) {
                        more.add(waiting.advanced());
                    }
                }
            }
            for (Item one : more) {
                if (known.add(one)) {
                    items.add(one);
                }
            }
        }
    }

    // ---- The shape of a right program, by its brackets

    private int closing(int open) {
        int depth = 0;
        for (int i = open; ; i++) {
            if (kind[i] == 4 || kind[i] == 6 || kind[i] == 8) {
                depth++;
            } else if (kind[i] == 5 || kind[i] == 7 || kind[i] == 9) {
                depth--;
                if (depth == 0) {
                    return i;
                }
            }
        }
    }

    private int statementEnd(int p) {
        switch (kind[p]) {
            case 8:
                return closing(p) + 1;
            case 34:
                int end = statementEnd(closing(p + 1) + 1);
                return kind[end] == 35 ? statementEnd(end + 1) : end;
            case 36:
                return statementEnd(closing(p + 1) + 1);
            default:
                int i = p;
                while (kind[i] != 10) {
                    i++;
                }
                return i + 1;
        }
    }

    /** Where each argument of the CALL begins and ends. */
    private List<int[]> arguments(int call) {
        int last = closing(call + 1);
        List<int[]> found = new ArrayList<>();
        int from = call + 2;
        for (int i = from; i <= last; i++) {
            if (i < last && (kind[i] == 4 || kind[i] == 6)) {
                i = closing(i);
            } else if (i > from && (i == last || kind[i] == 11)) {
                found.add(new int[] {from, i});
                from = i + 1;
            }
        }
        return found;
    }

    // ---- run

    int run(int f, int[] arguments) {
        if (f < 0 || f >= functions.size()) {
            return RegisterCompiler.REFUSED;
        }
        result = 0;
        endedAt = -1;
        used = 0;
        printed.clear();
        active = 0;
        try {
            result = perform(f, arguments);
            return RegisterCompiler.DONE;
        } catch (Ended ended) {
            endedAt = ended.place;
            return ended.how;
        }
    }

    private int perform(int f, int[] arguments) {
        int at = functions.get(f);
        int[] v = new int[6];
        System.arraycopy(arguments, 0, v, 0, value[at + 1]);
        active++;
        int how = statement(at + 2, v);
        active--;
        return how == RETURNED ? returned : 0;
    }

    private int statement(int p, int[] v) {
        int end = statementEnd(p);
        switch (kind[p]) {
            case 8:
                for (int i = p + 1; kind[i] != 9; i = statementEnd(i)) {
                    int how = statement(i, v);
                    if (how != NORMAL) {
                        return how;
                    }
                }
                return NORMAL;
            case 1:
                v[value[p]] = evaluate(p + 2, end - 1, v);
                return NORMAL;
            case 3:
                int index = evaluate(p + 2, closing(p + 1), v);
                int set = evaluate(closing(p + 1) + 2, end - 1, v);
                m[element(index, p)] = set;
                return NORMAL;
            case 34:
                return choose(p, v);
            case 36:
                return repeat(p, v);
            case 37:
                return BROKEN;
            case 38:
                return CONTINUED;
            case 39:
                returned = evaluate(p + 1, end - 1, v);
                return RETURNED;
            case 40:
                printed.add(evaluate(p + 1, end - 1, v));
                return NORMAL;
            default:
                evaluate(p, end - 1, v);
                return NORMAL;
        }
    }

    private int choose(int p, int[] v) {
        int close = closing(p + 1);
        int otherwise = statementEnd(close + 1);
        if (evaluate(p + 2, close, v) != 0) {
            return statement(close + 1, v);
        }
        return kind[otherwise] == 35 ? statement(otherwise + 1, v) : NORMAL;
    }

    private int repeat(int p, int[] v) {
        int close = closing(p + 1);
        while (true) {
            tick(p);
            if (evaluate(p + 2, close, v) == 0) {
                return NORMAL;
            }
            int how = statement(close + 1, v);
            if (how == RETURNED) {
                return how;
            }
            if (how == BROKEN) {
                return NORMAL;
            }
        }
    }

    private void tick(int at) {
        if (used == 120) {
            throw new Ended(RegisterCompiler.STOPPED, at);
        }
        used++;
    }

    private static int element(int index, int at) {
        if (index < 0 || index > 15) {
            throw new Ended(RegisterCompiler.INDEX, at);
        }
        return index;
    }

    /** Splits at the rightmost of the loosest operators that stand outside all brackets. */
    private int evaluate(int from, int to, int[] v) {
        for (int[] level : LEVELS) {
            int split = -1;
            for (int i = from; i < to; i++) {
                if (kind[i] == 4 || kind[i] == 6) {
                    i = closing(i);
                } else if (kind[i] >= level[0] && kind[i] <= level[1] && i > from && endsOperand(kind[i - 1])) {
                    split = i;
                }
            }
            if (split >= 0) {
                return operate(from, split, to, v);
            }
        }
        return unary(from, to, v);
    }

    private static boolean endsOperand(int k) {
        return k == 0 || k == 1 || k == 5 || k == 7;
    }

    private int unary(int from, int to, int[] v) {
        switch (kind[from]) {
            case 28:
                return -evaluate(from + 1, to, v);
            case 32:
                return evaluate(from + 1, to, v) == 0 ? 1 : 0;
            case 33:
                return ~evaluate(from + 1, to, v);
            case 0:
                return value[from];
            case 1:
                return v[value[from]];
            case 2:
                return call(from, v);
            case 3:
                return m[element(evaluate(from + 2, to - 1, v), from)];
            default:
                return evaluate(from + 1, to - 1, v);
        }
    }

    private int call(int at, int[] v) {
        List<int[]> spans = arguments(at);
        int[] given = new int[spans.size()];
        for (int i = 0; i < given.length; i++) {
            given[i] = evaluate(spans.get(i)[0], spans.get(i)[1], v);
        }
        if (active == 8) {
            throw new Ended(RegisterCompiler.DEEP, at);
        }
        tick(at);
        return perform(value[at], given);
    }

    private int operate(int from, int at, int to, int[] v) {
        int left = evaluate(from, at, v);
        if (kind[at] == 13) {
            return left != 0 || evaluate(at + 1, to, v) != 0 ? 1 : 0;
        }
        if (kind[at] == 14) {
            return left != 0 && evaluate(at + 1, to, v) != 0 ? 1 : 0;
        }
        int right = evaluate(at + 1, to, v);
        if (right == 0 && (kind[at] == 30 || kind[at] == 31)) {
            throw new Ended(RegisterCompiler.DIVIDE, at);
        }
        long wide = left;
        return switch (kind[at]) {
            case 15 -> left | right;
            case 16 -> left ^ right;
            case 17 -> left & right;
            case 18 -> left == right ? 1 : 0;
            case 19 -> left != right ? 1 : 0;
            case 20 -> left < right ? 1 : 0;
            case 21 -> left > right ? 1 : 0;
            case 22 -> left <= right ? 1 : 0;
            case 23 -> left >= right ? 1 : 0;
            case 24 -> (int) (wide << (right & 31));
            case 25 -> (int) (wide >> (right & 31));
            case 26 -> (int) ((wide & 0xffffffffL) >> (right & 31));
            case 27 -> (int) (wide + right);
            case 28 -> (int) (wide - right);
            case 29 -> (int) (wide * right);
            case 30 -> (int) (wide / right);
            default -> (int) (wide % right);
        };
    }
}
