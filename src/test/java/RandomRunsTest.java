import java.util.ArrayList;
import java.util.List;
import java.util.Random;
import java.util.function.LongSupplier;

/** Runs of random calls, whose answers are compared with those of the Oracle. */
public final class RandomRunsTest {
    private static final int RUNS = 6000;
    /** What later calls of an object answer is free. */
    private static final int MOST_CALLS = 512;
    private static final String[] POOL = {"parlour", "sight", "plant", "fern", "person", "deed", "dusty", "proof", "does",
        "sponge", "carry", "day", "or", "and", "not", "blind", "in", "sees", "tells", "leaves", "dust", "number", ";", "<",
        "=", ">", "(", ")", ".", "1", "0", "9", "60", "61", "007", "1000", "abcdefg", "abcdefgh", "a1", "A", "qa", "qb",
        "ra", "rb", "sa", "sb", "ta", "tb", "\u00e9", "\t"};

    private final Random random;
    private final Check check;
    private final ParlourLeaves x = new ParlourLeaves();
    private final Oracle o = new Oracle();
    private final List<String> calls = new ArrayList<>();

    private RandomRunsTest(long seed, Check check) {
        random = new Random(seed);
        this.check = check;
    }

    private int below(int n) {
        return random.nextInt(n);
    }

    private boolean rarely() {
        return below(25) == 0;
    }

    private int near(int n) {
        if (below(200) == 0) {
            return below(2) == 0 ? Integer.MAX_VALUE - below(2) : Integer.MIN_VALUE + below(2);
        }
        return rarely() ? below(20) - 8 : below(Math.max(1, n));
    }

    private String one(String... of) {
        return of[below(of.length)];
    }

    /** A name of a sort (its first letter) as the houses here tell them. */
    private String name(char sort, int most) {
        return rarely() ? one(POOL) : sort + "" + (char) ('a' + below(most));
    }

    private void houseWords(List<String> w) {
        int parlours = rarely() ? 6 * below(2) : 1 + below(5);
        int plants = parlours == 0 ? 0 : rarely() ? 7 * below(2) : 1 + below(6);
        for (int k = 0; k < parlours; k++) {
            add(w, "parlour", "q" + (char) ('a' + k), ";");
        }
        for (int k = 0; k < parlours; k++) {
            for (int m = 0; m < k; m++) {
                if (below(5) < 2) {
                    boolean turned = below(2) == 0;
                    add(w, "sight", "q" + (char) ('a' + (turned ? k : m)), "q" + (char) ('a' + (turned ? m : k)), ";");
                }
            }
        }
        for (int k = 0; k < plants; k++) {
            add(w, "plant", "r" + (char) ('a' + k), "q" + (char) ('a' + below(parlours)), "" + (rarely() ? below(12) : 1 + below(9)));
            add(w, below(5) == 0 ? new String[] {"fern", ";"} : new String[] {";"});
        }
        int persons = rarely() ? 5 * below(2) : 1 + below(4);
        for (int k = 0; k < persons; k++) {
            add(w, "person", "s" + (char) ('a' + k), ";");
        }
        int deeds = rarely() ? 6 * below(2) : 1 + below(5);
        for (int k = 0; k < deeds; k++) {
            add(w, "deed", "t" + (char) ('a' + k), ";");
        }
        if (below(3) > 0) {
            add(w, "dusty", "" + (rarely() ? below(80) : 1 + below(below(2) == 0 ? 60 : 20)), ";");
        }
        if (below(3) > 0) {
            add(w, "proof", "" + (rarely() ? below(9) : 1 + below(below(4) == 0 ? 6 : 3)), ";");
        }
    }

    private void bookWords(List<String> w) {
        int lines = rarely() ? 38 + below(5) : below(9);
        for (int k = 0; k < lines; k++) {
            switch (below(5)) {
                case 0: add(w, "sponge", name('r', 3), ";"); break;
                case 1: add(w, "carry", name('r', 3), name('q', 4), ";"); break;
                case 2: add(w, "day", "" + (rarely() ? below(80) : 1 + below(below(8) == 0 ? 60 : 6)), ";"); break;
                default: add(w, name('s', 2), "does", name('t', 2), name('q', 3), ";");
            }
        }
    }

    private void cond(List<String> w, int depth) {
        do {
            oneOf(w, depth);
        } while (below(5) < 2 && w.add(one("or", "and", "and")));
    }

    private void oneOf(List<String> w, int depth) {
        int kind = below(depth > 9 ? 8 : 12);
        switch (kind) {
            case 0: add(w, "blind"); break;
            case 1: add(w, "fern"); break;
            case 2: add(w, "in", name('q', 3)); break;
            case 3: add(w, "sees", name('q', 3)); break;
            case 4: add(w, "tells", name('s', 2)); break;
            case 5: add(w, "leaves", one("<", "=", ">"), "" + below(5)); break;
            case 6: add(w, "dust", one("<", "=", ">"), "" + below(20)); break;
            case 7: add(w, "number", one("<", "=", ">"), "" + below(6)); break;
            case 8:
            case 9:
                add(w, "not");
                oneOf(w, depth + 1);
                break;
            default:
                add(w, "(");
                cond(w, depth + 1);
                add(w, ")");
        }
    }

    private static void add(List<String> w, String... words) {
        w.addAll(List.of(words));
    }

    /** Words as a text, now and then with something wrong. */
    private String text(List<String> w) {
        int faults = below(3) == 0 ? 1 + below(2) : 0;
        for (int k = 0; k < faults; k++) {
            int place = below(w.size() + 1);
            switch (below(4)) {
                case 0: w.add(place, one(POOL)); break;
                case 1: if (place < w.size()) { w.remove(place); } break;
                case 2: if (place < w.size()) { w.set(place, one(POOL)); } break;
                default: if (place < w.size()) { w.add(place, w.get(below(w.size()))); }
            }
        }
        StringBuilder s = new StringBuilder();
        for (String word : w) {
            boolean letter = s.length() > 0 && word.matches("[a-z0-9].*") && s.substring(s.length() - 1).matches("[a-z0-9]");
            s.append(letter && below(200) > 0 ? one(" ", "\n", "  ") : one("", "", " ")).append(word);
        }
        if (rarely()) {
            int most = new int[] {200, 400, 900}[below(3)] + below(12) - 6;
            while (s.length() < most) {
                s.insert(below(4) == 0 ? 0 : s.length(), one(" ", "\n", " a", ";", "dusty "));
            }
        }
        return s.length() > 940 ? s.substring(0, 940) : s.toString();
    }

    private void feed(String text) {
        same("end(0)", () -> x.end(0) ? 1 : 0, () -> o.end(0));
        for (int k = 0; k < text.length(); k += 20) {
            int[] n = new int[5];
            for (int m = 0; m < 5; m++) {
                n[m] = Check.number(text, k + 4 * m);
            }
            same("feed", () -> x.feed(n[0], n[1], n[2], n[3], n[4]), () -> o.feed(n));
        }
        int n = text.length();
        same("end(" + n + ") of '" + text + "'", () -> x.end(n) ? 1 : 0, () -> o.end(n));
    }

    private void same(String call, LongSupplier mine, LongSupplier due) {
        if (calls.size() >= MOST_CALLS) {
            return;
        }
        calls.add(call);
        long want = Check.answer(due);
        boolean had = check.hasWrong();
        check.due(call, Check.answer(mine), want);
        if (!had && check.hasWrong()) {
            System.out.println("behind " + calls);
        }
    }

    private void texts() {
        List<String> w = new ArrayList<>();
        int kind = below(16) == 0 ? 0 : 1 + below(5);
        if (kind == 0) {
            houseWords(w);
        } else if (kind < 4) {
            bookWords(w);
        } else {
            cond(w, 1);
        }
        feed(text(w));
        int reads = rarely() ? below(6) : kind;
        int lives = rarely() ? below(5) - 2 : below(3) > 0 ? 1 : 0;
        if (reads == 0) {
            same("house()", x::house, o::house);
        } else if (reads < 4) {
            same("book(" + lives + ")", () -> x.book(lives), () -> o.book(lives));
            for (int k = -1; k < 5; k++) {
                int what = k;
                same("told(" + what + ")", () -> x.told(what), () -> o.told(what));
            }
        } else {
            same("sentence()", x::sentence, o::sentence);
            for (int k = -2; k < 7; k++) {
                int what = k;
                same("said(" + what + ")", () -> x.said(what), () -> o.said(what));
            }
        }
        same("fault()", x::fault, o::fault);
    }

    private void pairs() {
        StringBuilder s = new StringBuilder();
        int n = rarely() ? below(8) : 1 + below(3);
        for (int k = 0; k < n; k++) {
            s.append((char) below(rarely() ? 256 : 5)).append((char) below(rarely() ? 3 : 2));
        }
        feed(rarely() && s.length() > 0 ? s.substring(1) : s.toString());
        same("fits()", x::fits, o::fits);
        same("ask()", x::ask, o::ask);
    }

    private void things() {
        int a = near(4);
        int b = near(5);
        int c = near(5);
        int n = below(12) == 0 ? 60 : rarely() ? below(70) - 4 : 1 + below(5);
        int seed = random.nextInt();
        switch (below(12)) {
            case 0:
            case 1:
            case 2:
            case 3: same("does(" + a + ", " + b + ", " + c + ")", () -> x.does(a, b, c), () -> o.does(a, b, c)); break;
            case 4:
            case 5: same("sponge(" + b + ")", () -> x.sponge(b), () -> o.sponge(b)); break;
            case 6:
            case 7: same("carry(" + b + ", " + c + ")", () -> x.carry(b, c), () -> o.carry(b, c)); break;
            case 8:
            case 9: same("days(" + n + ")", () -> x.days(n), () -> o.days(n)); break;
            case 10: same("drawn(" + n + ", " + seed + ")", () -> x.drawn(n, seed), () -> o.drawn(n, seed)); break;
            default: keptThings();
        }
    }

    private void keptThings() {
        int k = rarely() ? below(5) - 2 : below(2);
        switch (below(6)) {
            case 0: same("image(" + k + ")", () -> x.image(k) ? 1 : 0, () -> o.image(k)); break;
            case 1: same("restore(" + k + ")", () -> x.restore(k) ? 1 : 0, () -> o.restore(k)); break;
            default: same("undo()", x::undo, o::undo);
        }
    }

    private void questions() {
        int a = near(4);
        int b = near(7);
        int c = near(8);
        int i = near(13);
        int n = rarely() ? below(40) - 5 : 1 + below(30);
        int seed = random.nextInt();
        switch (below(22)) {
            case 0: same("plant(" + b + ", " + c + ")", () -> x.plant(b, c), () -> o.plant(b, c)); break;
            case 1: same("act(" + i + ", " + c + ")", () -> x.act(i, c), () -> o.act(i, c)); break;
            case 2: same("comes(" + b + ", " + i + ")", () -> x.comes(b, i), () -> o.comes(b, i)); break;
            case 3: same("sights(" + b + ")", () -> x.sights(b), () -> o.sights(b)); break;
            case 4: same("now(" + c + ")", () -> x.now(c), () -> o.now(c)); break;
            case 5: same("guilty(" + a + ", " + b + ")", () -> x.guilty(a, b), () -> o.guilty(a, b)); break;
            case 6: same("proves(" + i + ")", () -> x.proves(i), () -> o.proves(i)); break;
            case 7: same("hides(" + n + ")", () -> x.hides(n), () -> o.hides(n)); break;
            case 8: same("dark(" + b + ")", () -> x.dark(b), () -> o.dark(b)); break;
            case 9: same("cover()", x::cover, o::cover); break;
            case 10: same("covering()", x::covering, o::covering); break;
            case 11: same("round(" + b + ")", () -> x.round(b), () -> o.round(b)); break;
            case 12: same("roundAt(" + b + ")", () -> x.roundAt(b), () -> o.roundAt(b)); break;
            case 13: same("choice()", x::choice, o::choice); break;
            case 14: same("chosen(" + a + ")", () -> x.chosen(a), () -> o.chosen(a)); break;
            case 15: same("elder()", x::elder, o::elder); break;
            case 16: same("card(" + b + ")", () -> x.card(b), () -> o.card(b)); break;
            case 17: same("byteAt(" + i + ")", () -> x.byteAt(i), () -> o.byteAt(i)); break;
            case 18: same("odds(" + a + ", " + n + ")", () -> x.odds(a, n, seed), () -> o.odds(a, n, seed)); break;
            case 19: same("said(" + (b - 1) + ")", () -> x.said(b - 1), () -> o.said(b - 1)); break;
            case 20: same("ask()", x::ask, o::ask); break;
            default: same("count(" + c + ")", () -> x.count(c), () -> o.count(c));
        }
    }

    /** All that is so, so that no change goes unseen. */
    private void all() {
        for (int k = 0; k < 8; k++) {
            int what = k;
            same("now(" + what + ")", () -> x.now(what), () -> o.now(what));
            same("count(" + what + ")", () -> x.count(what), () -> o.count(what));
            for (int m = 0; m < 7; m++) {
                int p = m;
                same("plant(" + p + ", " + what + ")", () -> x.plant(p, what), () -> o.plant(p, what));
            }
            for (int m = 0; m < 13; m++) {
                int i = m;
                same("act(" + i + ", " + what + ")", () -> x.act(i, what), () -> o.act(i, what));
            }
        }
    }

    private void run() {
        if (below(10) > 0) {
            List<String> w = new ArrayList<>();
            houseWords(w);
            feed(String.join(" ", w));
            same("house()", x::house, o::house);
        }
        // Some runs come to the last days.
        if (below(4) == 0) {
            for (int k = 0; k < 6; k++) {
                same("days(60)", () -> x.days(60), () -> o.days(60));
            }
            int more = 15 + below(25);
            same("days(" + more + ")", () -> x.days(more), () -> o.days(more));
        }
        while (calls.size() < MOST_CALLS) {
            int kind = below(40);
            if (kind < 2) {
                texts();
            } else if (kind < 4) {
                pairs();
            } else if (kind < 18) {
                things();
            } else if (kind < 39) {
                questions();
            } else {
                all();
            }
        }
    }

    public static void main(String[] args) {
        Check check = new Check();
        for (int run = 0; run < RUNS && !check.hasWrong(); run++) {
            new RandomRunsTest(1000 + run, check).run();
        }
        check.finish();
    }
}
