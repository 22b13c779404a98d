import java.util.Random;

/** Seeded runs of 512 calls on the class and on PlainSummit: every answer is the same. */
final class ModelTest {
    private static final int RUNS = 600;
    private static final int[] WILD = {Integer.MIN_VALUE, -5, -4, -3, -2, 60, 63, 64, 99, 100, 255, 256,
        Integer.MAX_VALUE};
    private static final String[] SCRAPS = {"top", "climber", "guide", "mourner", "bank", "deed", "fog",
        "clear", ";", ";", " ", "  ", "0", "1", "7", "20", "21", "59", "60", "007", "x", ".", "A", "\t"};

    private final Random chance;
    private final SummitTime x = new SummitTime();
    private final PlainSummit y = new PlainSummit();
    private final StringBuilder trail = new StringBuilder();
    private int calls = 0;

    private ModelTest(long seed) {
        chance = new Random(seed);
    }

    public static void main(String[] args) {
        for (int run = 0; run < RUNS; run++) {
            new ModelTest(run).go(run);
        }
        Check.finish();
    }

    private void go(int run) {
        while (calls < 500) {
            if (chance.nextInt(calls < 20 ? 2 : 60) == 0) {
                tell();
            } else {
                call(chance.nextInt(24));
            }
        }
        trail.setLength(0);
    }

    private void same(String call, long got, long want) {
        calls++;
        trail.append(call).append("; ");
        Check.due(got == want ? call : "run: " + trail, got, want);
    }

    /** A number mostly within least .. most, now and then beside or far off. */
    private int number(int least, int most) {
        int kind = chance.nextInt(40);
        if (kind == 0) {
            return WILD[chance.nextInt(WILD.length)];
        }
        if (kind == 1) {
            return chance.nextBoolean() ? least - 1 : most + 1;
        }
        return least + chance.nextInt(most - least + 1);
    }

    private int who() {
        int people = y.count(0);
        return people == 0 ? number(-1, 6) : number(0, people - 1);
    }

    // ---- texts

    private void tell() {
        String text = text();
        for (int i = 0; i < text.length() && calls < 480; i++) {
            int letter = text.charAt(i);
            same("write(" + letter + ")", x.write(letter), y.write(letter));
        }
        same("fault()", x.fault(), y.fault());
        same("top()", x.top(), y.top());
        if (chance.nextInt(3) > 0) {
            same("erase()", x.erase(), y.erase());
        }
        for (int p = 0; p < 6; p++) {
            same("person(" + p + ", 9)", x.person(p, 9), y.person(p, 9));
        }
    }

    private String text() {
        StringBuilder text = new StringBuilder();
        int clauses = 1 + chance.nextInt(chance.nextInt(5) == 0 ? 16 : 7);
        int people = y.count(0);
        for (int i = 0; i < clauses; i++) {
            if (i > 0) {
                text.append(blanks()).append(';').append(blanks());
            }
            people += clause(text, people);
        }
        if (chance.nextInt(4) == 0) {
            text.insert(chance.nextInt(text.length() + 1), SCRAPS[chance.nextInt(SCRAPS.length)]);
        }
        if (chance.nextInt(8) == 0) {
            text.deleteCharAt(chance.nextInt(text.length()));
        }
        return text.toString();
    }

    /** Puts a clause, mostly one that can stand there: how many people it brings. */
    private int clause(StringBuilder text, int people) {
        int kind = chance.nextInt(people < 3 ? 7 : 12);
        if (kind < 6 && (people < 6 || chance.nextInt(10) == 0)) {
            String[] kinds = {"climber", "guide", "mourner", "bank"};
            text.append(kinds[chance.nextInt(4)]).append(blanks()).append(small(1, chance.nextBoolean() ? 20 : 4));
            text.append(' ').append(small(1, 6)).append(' ').append(small(0, chance.nextBoolean() ? 20 : 3));
            return 1;
        }
        if (kind == 11 && chance.nextInt(3) == 0) {
            text.append(chance.nextBoolean() ? "top" : "clear");
            return 0;
        }
        int from = chance.nextInt(60);
        int to = Math.min(59, from + chance.nextInt(25)) - (chance.nextInt(50) == 0 ? 1 : 0);
        if (kind == 10) {
            text.append("fog ").append(from).append(' ').append(Math.min(to, from + 4));
        } else {
            text.append("deed").append(blanks()).append(small(0, Math.max(0, people - 1)));
            text.append(' ').append(from).append("  ").append(to);
        }
        return 0;
    }

    private String small(int least, int most) {
        int n = chance.nextInt(60) == 0 ? most + 1 : least + chance.nextInt(most - least + 1);
        return n < 10 && chance.nextInt(6) == 0 ? "0" + n : "" + n;
    }

    private String blanks() {
        return " ".repeat(chance.nextInt(6) / 4);
    }

    // ---- calls

    private void call(int which) {
        if (which < 11) {
            doing(which);
        } else {
            asking(which);
        }
    }

    private void doing(int which) {
        int p = who();
        int q = chance.nextInt(5) == 0 ? -1 : who();
        int s = number(0, 59);
        int k = number(0, 9);
        int bit = number(0, 1);
        switch (which) {
            case 0, 1 -> same("start(" + p + ", " + s + ")", x.start(p, s), y.start(p, s));
            case 2 -> same("stays(" + p + ")", x.stays(p), y.stays(p));
            case 3 -> same("rope(" + p + ", " + bit + ")", x.rope(p, bit), y.rope(p, bit));
            case 4 -> same("clock(" + k + ")", x.clock(k), y.clock(k));
            case 5 -> same("halve(" + p + ", " + q + ")", x.halve(p, q), y.halve(p, q));
            case 6 -> same("sell(" + s + ", " + q + ")", x.sell(s, q), y.sell(s, q));
            case 7 -> same("undo()", x.undo(), y.undo());
            case 8 -> same("keep(" + bit + ")", x.keep(bit), y.keep(bit));
            case 9 -> same("back(" + bit + ")", x.back(bit), y.back(bit));
            default -> seeing(p, k);
        }
    }

    private void seeing(int p, int k) {
        int fine = chance.nextBoolean() ? y.person(p, 8) : number(0, 99);
        same("seen(" + p + ", " + fine + ")", x.seen(p, fine), y.seen(p, fine));
        same("clocks()", x.clocks(), y.clocks());
        if (k == 0) {
            same("forget()", x.forget(), y.forget());
        }
    }

    private void asking(int which) {
        int p = who();
        int q = who();
        int s = number(0, 59);
        int what = number(0, 9);
        int bit = number(0, 1);
        switch (which) {
            case 11, 12, 13 -> same("person(" + p + ", " + what + ")", x.person(p, what), y.person(p, what));
            case 14 -> same("second(" + s + ", " + what % 4 + ")", x.second(s, what % 4), y.second(s, what % 4));
            case 15 -> same("as(" + p + ", " + what / 2 + ")", x.as(p, what / 2), y.as(p, what / 2));
            case 16 -> same("best(" + p + ", " + bit + ")", x.best(p, bit), y.best(p, bit));
            case 17 -> ordering();
            case 18 -> same("reached()", x.reached(), y.reached());
            case 19 -> same("free(" + p + ")", x.free(p), y.free(p));
            case 20 -> same("ropes(" + s + ")", x.ropes(s), y.ropes(s));
            case 21 -> same("together(" + p + ", " + q + ")", x.together(p, q), y.together(p, q));
            case 22 -> odds(p, number(0, 6), number(0, 10), bit);
            default -> same("count(" + what + ")", x.count(what), y.count(what));
        }
    }

    private void ordering() {
        int set = number(0, (1 << y.count(0)) - 1);
        int a = chance.nextBoolean() ? number(0, 12) : number(0, 59);
        for (int what = 0; what <= 7; what++) {
            same("order(" + set + ", " + a + ", " + what + ")", x.order(set, a, what), y.order(set, a, what));
        }
    }

    private void odds(int p, int k, int q, int part) {
        same("clear(" + p + ", " + k + ", " + q + ", " + part + ")", x.clear(p, k, q, part), y.clear(p, k, q, part));
    }
}
