import java.util.ArrayList;
import java.util.List;

/** Makes programs, the same ones every time, by a plain row of numbers that follows from a seed. */
final class Programs {
    private static final int[] NUMBERS = {0, 1, 2, 3, 5, 7, 8, 15, 16, 31, 33, -1, -2, 100, 65536,
        Integer.MAX_VALUE, Integer.MIN_VALUE};
    private static final int[] WORDS = {8, 9, 10, 34, 35, 36, 37, 38, 39, 40, 41};

    private long state;
    private final List<int[]> tokens = new ArrayList<>();
    private final int[] parameters = new int[4];
    private int functions = 0;
    private int loops = 0;

    Programs(long seed) {
        state = seed * 0x9E3779B97F4A7C15L + 12345;
    }

    int below(int bound) {
        state = state * 6364136223846793005L + 1442695040888963407L;
        return (int) ((state >>> 33) % bound);
    }

    int number() {
        return below(3) == 0 ? NUMBERS[below(NUMBERS.length)] : below(17);
    }

    private void put(int kind, int value) {
        tokens.add(new int[] {kind, value});
    }

    private void put(int kind) {
        put(kind, below(5) == 0 ? number() : 0);
    }

    /** A program that mostly compiles; now and then it is too long, or a call or a break is out of place. */
    List<int[]> program() {
        for (int attempt = 0; attempt < 4; attempt++) {
            write();
            if (tokens.size() <= 120) {
                break;
            }
        }
        return new ArrayList<>(tokens);
    }

    private void write() {
        tokens.clear();
        functions = 1 + below(4);
        for (int f = 0; f < functions; f++) {
            parameters[f] = below(4);
        }
        int room = 20 + below(101);
        for (int f = 0; f < functions; f++) {
            put(41);
            put(0, parameters[f]);
            put(8);
            loops = 0;
            int until = tokens.size() + room / functions - 6;
            for (int i = 0; i < 12 && tokens.size() < until; i++) {
                statement(3);
            }
            put(9);
        }
    }

    private void statement(int depth) {
        int which = below(depth > 0 ? 12 : 7);
        if (which < 2) {
            put(1, below(6));
            put(12);
            expression(2);
            put(10);
        } else if (which == 2) {
            element();
            put(12);
            expression(2);
            put(10);
        } else if (which == 3) {
            call(1);
            put(10);
        } else if (which == 4) {
            put(40);
            expression(2);
            put(10);
        } else if (which == 5 && below(3) == 0) {
            put(39);
            expression(2);
            put(10);
        } else if (which < 7) {
            jump();
        } else if (which < 9) {
            choice(depth);
        } else if (which < 11) {
            loop(depth);
        } else {
            block(depth);
        }
    }

    private void jump() {
        if (loops > 0 || below(60) == 0) {
            put(37 + below(2));
            put(10);
        } else {
            put(8);
            put(9);
        }
    }

    private void block(int depth) {
        put(8);
        for (int i = below(4); i > 0; i--) {
            statement(depth - 1);
        }
        put(9);
    }

    private void choice(int depth) {
        put(34);
        put(4);
        expression(2);
        put(5);
        statement(depth - 1);
        if (below(2) == 0) {
            put(35);
            statement(depth - 1);
        }
    }

    private void loop(int depth) {
        put(36);
        put(4);
        expression(1);
        put(5);
        loops++;
        statement(depth - 1);
        loops--;
    }

    private void element() {
        put(3);
        put(6);
        expression(1);
        if (below(2) == 0) {
            put(17);
            put(0, 15);
        }
        put(7);
    }

    private void call(int depth) {
        int f = below(40) == 0 ? below(4) : below(functions);
        int count = below(40) == 0 ? below(5) : parameters[f];
        put(2, f);
        put(4);
        for (int i = 0; i < count; i++) {
            if (i > 0) {
                put(11);
            }
            expression(depth - 1);
        }
        put(5);
    }

    private void expression(int depth) {
        operand(depth);
        for (int i = below(3); i > 0 && depth > 0; i--) {
            put(13 + below(19));
            operand(depth - 1);
        }
    }

    private void operand(int depth) {
        int which = below(depth > 0 ? 10 : 6);
        if (which < 3) {
            put(1, below(6));
        } else if (which < 5) {
            put(0, number());
        } else if (which == 5) {
            int sign = below(3);
            put(sign == 0 ? 28 : 31 + sign);
            operand(depth);
        } else if (which == 6) {
            call(depth);
        } else if (which == 7) {
            element();
        } else {
            put(4);
            expression(depth - 1);
            put(5);
        }
    }

    /** Changes some tokens, so that most such programs are wrong somewhere. */
    void spoil(List<int[]> program) {
        for (int times = 1 + below(2); times > 0 && !program.isEmpty(); times--) {
            int at = below(program.size());
            switch (below(6)) {
                case 0:
                    program.remove(at);
                    break;
                case 1:
                    program.add(at, anyToken());
                    break;
                case 2:
                    program.set(at, anyToken());
                    break;
                case 3:
                    program.add(at, program.get(below(program.size())));
                    break;
                case 4:
                    program.set(at, program.get(below(program.size())));
                    break;
                default:
                    program.subList(at, program.size()).clear();
                    break;
            }
        }
    }

    private int[] anyToken() {
        int kind = below(4) == 0 ? WORDS[below(WORDS.length)] : below(42);
        int value = kind == 1 ? below(6) : kind == 2 ? below(4) : number();
        return new int[] {kind, value};
    }
}
