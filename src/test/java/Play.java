/** What the tests by promises and by edges share: houses, texts on tapes, days, and answers that are due. */
abstract class Play {
    static final int NONE = ParlourLeaves.NONE;
    static final int MIN = Integer.MIN_VALUE;
    static final int MAX = Integer.MAX_VALUE;
    static final Check CHECK = new Check();

    /** front 0 - hall 2 - back 1, den 3 apart; green is a fern. */
    static final String HOUSE = "parlour front;parlour back;parlour hall;parlour den;"
        + "sight front hall;sight hall back;plant old front 3;plant new back 1;plant green den 2 fern;plant maid hall 2;"
        + "person ann;person bob;deed kiss;deed lie;dusty 4;proof 2;";

    /** As many as there may be of each sort, all in sight of all. */
    static final String FULL = "parlour a;parlour b;parlour c;parlour d;parlour e;"
        + "sight a b;sight a c;sight a d;sight a e;sight b c;sight b d;sight b e;sight c d;sight c e;sight d e;"
        + "plant p a 1;plant q b 1;plant r c 1;plant s d 1;plant t e 1;plant u a 9;"
        + "person v;person w;person x;person y;deed k;deed l;deed m;deed n;deed o;dusty 60;proof 6;";
    static final int FULL_LINES = 32;

    static final String[] KEYS = ("parlour sight plant fern person deed dusty proof does sponge carry day or and not blind in"
        + " sees tells leaves dust number").split(" ");

    /** The sentences of the document whose edges are looked at next. */
    static void says(String... sentences) {
        CHECK.says(sentences);
    }

    static void due(String call, long got, long want) {
        CHECK.due(call, got, want);
    }

    static void due(String call, boolean got, boolean want) {
        CHECK.due(call, got, want);
    }

    static void due(String call, String got, String want) {
        CHECK.due(call + " '" + got + "', due is '" + want + "': alike", got.equals(want), true);
    }

    static ParlourLeaves house(String text) {
        ParlourLeaves x = new ParlourLeaves();
        Check.tape(x, text);
        x.house();
        return x;
    }

    static ParlourLeaves house() {
        return house(HOUSE);
    }

    static ParlourLeaves onDay(ParlourLeaves x, int day) {
        for (int left = day - x.now(0); left > 0; left = day - x.now(0)) {
            x.days(Math.min(60, left));
        }
        return x;
    }

    static int house(ParlourLeaves x, String text) {
        Check.tape(x, text);
        return x.house();
    }

    static int book(ParlourLeaves x, String text, int lives) {
        Check.tape(x, text);
        return x.book(lives);
    }

    static int sentence(ParlourLeaves x, String text) {
        Check.tape(x, text);
        return x.sentence();
    }

    static int fits(ParlourLeaves x, int... bytes) {
        StringBuilder s = new StringBuilder();
        for (int b : bytes) {
            s.append((char) b);
        }
        Check.tape(x, s.toString());
        return x.fits();
    }

    static void doTimes(ParlourLeaves x, int n, int l) {
        for (int k = 0; k < n; k++) {
            x.does(0, 0, l);
        }
    }

    static String times(int n, String text) {
        return text.repeat(n);
    }

    static String blanks(int n) {
        return times(n, " ");
    }

    static String card(ParlourLeaves x, int p) {
        int n = x.card(p);
        StringBuilder s = new StringBuilder();
        for (int k = 0; k < n; k++) {
            s.append((char) x.byteAt(k));
        }
        return s.toString();
    }

    static void dueHouse(String text, int answer, int kind) {
        ParlourLeaves x = new ParlourLeaves();
        due("house() of '" + text + "'", house(x, text), answer);
        due("fault() of '" + text + "'", x.fault(), kind);
        due("tape behind '" + text + "'", x.count(6), 0);
    }

    static void dueBook(String text, int answer, int kind) {
        ParlourLeaves x = house();
        due("book(0) of '" + text + "'", book(x, text, 0), answer);
        due("fault() of '" + text + "'", x.fault(), kind);
        due("tape behind '" + text + "'", x.count(6), 0);
    }

    static void dueSentence(String text, int answer, int kind) {
        ParlourLeaves x = house();
        due("sentence() of '" + text + "'", sentence(x, text), answer);
        due("fault() of '" + text + "'", x.fault(), kind);
        due("tape behind '" + text + "'", x.count(6), 0);
    }

    static void dueSaid(ParlourLeaves x, String text, int... plants) {
        due("sentence() of '" + text + "'", sentence(x, text) > 0, true);
        due("said(NONE) of '" + text + "'", x.said(NONE), plants.length);
        for (int k = 0; k < plants.length; k++) {
            due("said(" + k + ") of '" + text + "'", x.said(k), plants[k]);
        }
        due("said beyond of '" + text + "'", x.said(plants.length), NONE);
    }

    /** A draw by the document's words in longs, where nothing wraps by itself. */
    static int draw(int[] x, int n) {
        long next = (x[0] & 0xffffffffL) * 1103515245L + 12345L & 0xffffffffL;
        x[0] = (int) next;
        return (int) ((next >> 8) % n);
    }

    /** What days that are drawn do, by the other calls. */
    static void daysByHand(ParlourLeaves x, int days, int seed) {
        int parlours = x.count(0);
        int plants = x.count(1);
        int persons = x.count(2);
        int deeds = x.count(3);
        int[] by = {seed};
        for (int k = 0; k < days * persons; k++) {
            int turn = draw(by, 6);
            if (turn == 0 && deeds > 0 && parlours > 0) {
                int d = draw(by, deeds);
                x.does(k % persons, d, draw(by, parlours));
            } else if (turn == 1 && plants > 0) {
                x.sponge(draw(by, plants));
            } else if (turn == 2 && plants > 0) {
                int p = draw(by, plants);
                x.carry(p, draw(by, parlours));
            }
            if (k % persons == persons - 1) {
                x.days(1);
            }
        }
        if (persons == 0) {
            x.days(days);
        }
    }

    /** All that is so in the house, as far as calls that change nothing tell it; the fewest calls, as an object has but 512. */
    static String state(ParlourLeaves x) {
        int parlours = x.count(0);
        int plants = x.count(1);
        int acts = x.now(1);
        int said = x.said(NONE);
        StringBuilder s = new StringBuilder(parlours + " " + plants + " " + acts + " " + said + ": ");
        for (int k = 0; k < 8; k++) {
            s.append(x.now(k)).append(k > 1 && k < 6 ? "/" + x.count(k) + " " : " ");
        }
        for (int p = 0; p < plants; p++) {
            for (int what = 0; what < 8; what++) {
                s.append(x.plant(p, what)).append(what < 7 ? "," : "; ");
            }
        }
        for (int i = 0; i < acts; i++) {
            for (int what = 0; what < 7; what++) {
                s.append(x.act(i, what)).append(what < 6 ? "," : "; ");
            }
            for (int p = 0; p < plants; p++) {
                s.append(x.comes(p, i)).append(' ');
            }
        }
        for (int l = 0; l < parlours; l++) {
            s.append("sights ").append(x.sights(l)).append(' ');
        }
        for (int k = 0; k < said; k++) {
            s.append("said ").append(x.said(k)).append(' ');
        }
        return s.toString();
    }

    /** What the latest of other calls told, and the tape's length. */
    static String latest(ParlourLeaves x) {
        StringBuilder s = new StringBuilder();
        s.append(x.fault()).append(' ').append(x.ask()).append(' ').append(x.covering()).append(' ').append(x.count(6));
        for (int k = 0; k < 4; k++) {
            s.append(' ').append(x.told(k)).append(' ').append(x.chosen(k)).append(' ').append(x.roundAt(k));
        }
        for (int k = 0; k < 20; k++) {
            s.append(' ').append(x.byteAt(k));
        }
        return s.toString();
    }
}
