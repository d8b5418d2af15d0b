/** Each sentence of the document's promises that names an edge of a call, in the document's order. */
public final class CallEdgesTest extends Play {
    /** Numbers that no call with a few places takes. */
    private static final int[] FAR = {MIN, MIN + 1, -1000, -2, 1000, MAX - 1, MAX};

    private static void calls() {
        says("An object is used for at most 512 calls after it has been made; what later calls answer is free.");
        ParlourLeaves x = new ParlourLeaves();
        // Two feeds, one end, one house: 4 calls, and 508 more.
        String text = "parlour a;plant p a 1;person n;deed d;";
        for (int k = 0; k < text.length(); k += 20) {
            x.feed(Check.number(text, k), Check.number(text, k + 4), Check.number(text, k + 8), Check.number(text, k + 12),
                Check.number(text, k + 16));
        }
        x.end(text.length());
        due("house()", x.house(), 4);
        for (int k = 0; k < 254; k++) {
            due("does() as call " + (5 + 2 * k), x.does(0, 0, 0), 0);
            due("undo() as call " + (6 + 2 * k), x.undo(), 0);
        }
    }

    // ---- Promises 1 to 5

    private static void newObject() {
        says("A HOUSE without PARLOURS; an empty tape.");
        ParlourLeaves x = new ParlourLeaves();
        due("as a house of an empty text", state(x) + latest(x), state(house("")) + latest(house("")));
        due("no parlours", x.count(0), 0);
        due("no bytes", x.count(6), 0);
        due("dusty", x.count(4), 6);
        due("proof", x.count(5), 2);
    }

    private static void feed() {
        says("Twenty bytes come behind the tape, of each number the highest first: how many it has;");
        ParlourLeaves x = new ParlourLeaves();
        String text = "deed abc;dusty 45;  ";
        due("feed into none", x.feed(Check.number(text, 0), Check.number(text, 4), Check.number(text, 8), Check.number(text, 12),
            Check.number(text, 16)), 20);
        due("all twenty in order", x.house(), 2);
        due("the bytes of the fourth", x.count(4), 45);
        for (int place = 0; place < 20; place++) {
            int[] n = new int[5];
            for (int k = 0; k < 20; k++) {
                n[k / 4] |= (k < place ? ' ' : 255) << 24 - 8 * (k % 4);
            }
            x.feed(n[0], n[1], n[2], n[3], n[4]);
            due("the first byte that is no blank", x.house(), -1 - place);
        }
        says("NONE, and none come, if it would have more than 940.");
        for (int k = 1; k <= 46; k++) {
            due("feed", x.feed(0, 0, 0, 0, 0), 20 * k);
        }
        x.end(919);
        due("feed behind 919", x.feed(0, 0, 0, 0, 0), 939);
        due("feed behind 939", x.feed(0, 0, 0, 0, 0), NONE);
        due("none come", x.count(6), 939);
        x.end(920);
        due("feed behind 920", x.feed(0, 0, 0, 0, 0), 940);
        due("feed behind 940", x.feed(0, 0, 0, 0, 0), NONE);
        due("none come", x.count(6), 940);
        x.end(921);
        due("feed behind 921", x.feed(-1, -1, -1, -1, -1), NONE);
        due("none come", x.count(6), 921);
    }

    private static void end() {
        says("The tape has its first n bytes alone: true; false, if it has not so many, or n is below 0.");
        ParlourLeaves x = new ParlourLeaves();
        due("end(0) of none", x.end(0), true);
        due("end(1) of none", x.end(1), false);
        for (int k = 0; k < 47; k++) {
            x.feed(0, 0, 0, 0, 0);
        }
        for (int no : new int[] {MIN, -1, 941, 960, MAX}) {
            due("end(" + no + ")", x.end(no), false);
            due("the tape stays", x.count(6), 940);
        }
        due("end(940)", x.end(940), true);
        due("all of it", x.count(6), 940);
        due("end(939)", x.end(939), true);
        due("one less", x.count(6), 939);
        due("end(940) of 939", x.end(940), false);
        due("end(1)", x.end(1), true);
        due("one", x.count(6), 1);
        due("end(0)", x.end(0), true);
        due("none", x.count(6), 0);
        // The first ones, not the last, and others come behind them.
        Check.tape(x, "dusty 15;");
        x.end(7);
        due("behind seven", x.feed(';' << 24 | ' ' << 16 | ' ' << 8 | ' ', 0x20202020, 0x20202020, 0x20202020, 0x20202020), 27);
        due("house() of both", x.house(), 1);
        due("dusty 1", x.count(4), 1);
    }

    private static void houses() {
        says("The tape (empty then, here and below) is the HOUSE now: how many LINES; -1 less the place of a FAULT: it stays.");
        ParlourLeaves x = house();
        x.does(0, 0, 2);
        x.days(2);
        sentence(x, "tells ann");
        String before = state(x);
        for (String text : new String[] {"?", "parlour a;?", "dusty 9;proof 9;", FULL + "sight a b;", blanks(901)}) {
            due("a fault", house(x, text) < 0, true);
            due("the tape is empty", x.count(6), 0);
            due("all stays", state(x), before);
        }
        due("the fault at 0", house(x, "?"), -1);
        due("names stay", book(x, "ann does kiss front;", 1), NONE);
        due("what could be undone stays", x.undo(), 2);
        due("an empty tape", x.house(), 0);
        due("is a house without parlours", x.count(0), 0);
        due("without plants", x.count(1), 0);
        due("nothing to undo", x.undo(), NONE);
        ParlourLeaves full = new ParlourLeaves();
        due("a house of all", house(full, FULL), FULL_LINES);
        due("the tape is empty", full.count(6), 0);
    }

    private static void fault() {
        says("(a book() of -1000 leaves it); 0 without one and ahead of any.");
        ParlourLeaves x = new ParlourLeaves();
        due("ahead of any", x.fault(), 0);
        String[] kinds = {"", "?", "dusty 0;", "deed a;deed a;", "person a;person b;person c;person d;person"};
        for (int kind = 4; kind >= 0; kind--) {
            house(x, kinds[kind]);
            due("kind " + kind, x.fault(), kind);
            due("told again", x.fault(), kind);
            for (int lives : new int[] {-1, 2, MIN, MAX}) {
                due("book(" + lives + ")", x.book(lives), -1000);
                due("kind " + kind + " stays", x.fault(), kind);
            }
            x.fits();
            due("kind " + kind + " behind fits()", x.fault(), kind);
        }
        due("a book's", book(x, "tom does", 0) == -2 ? x.fault() : NONE, 3);
        due("an empty book", book(x, "", 1), NONE);
        due("without one", x.fault(), 0);
        sentence(x, "leaves < 1000");
        due("a sentence's", x.fault(), 1);
        sentence(x, "fern");
        due("without one", x.fault(), 0);
    }

    // ---- Promises 6 to 10

    private static void plantAndAct() {
        says("7 leaves that will come. NoSuchElementException: no such ones.");
        ParlourLeaves none = new ParlourLeaves();
        CHECK.dueThrow("plant(0, 0) of none", () -> none.plant(0, 0));
        ParlourLeaves full = house(FULL);
        due("the last of six", full.plant(5, 1), 9);
        CHECK.dueThrow("plant(6, 0) of six", () -> full.plant(6, 0));
        ParlourLeaves x = house();
        for (int what = 0; what < 8; what++) {
            int asked = what;
            due("plant(3, " + what + ")", Check.answer(() -> x.plant(3, asked)) >= 0, true);
            CHECK.dueThrow("plant(4, " + what + ")", () -> x.plant(4, asked));
            CHECK.dueThrow("plant(-1, " + what + ")", () -> x.plant(-1, asked));
        }
        CHECK.dueThrow("plant(0, 8)", () -> x.plant(0, 8));
        CHECK.dueThrow("plant(0, -1)", () -> x.plant(0, -1));
        says("6 PROVED (1, 0). NoSuchElementException: no such ones.");
        CHECK.dueThrow("act(0, 0) of none", () -> x.act(0, 0));
        for (int i = 0; i < 12; i++) {
            int asked = i;
            CHECK.dueThrow("act(" + i + ", 0) ahead of it", () -> x.act(asked, 0));
            x.does(0, 0, 0);
            due("act(" + i + ", 6)", x.act(i, 6), 0);
        }
        CHECK.dueThrow("act(12, 0)", () -> x.act(12, 0));
        CHECK.dueThrow("act(-1, 0)", () -> x.act(-1, 0));
        CHECK.dueThrow("act(0, 7)", () -> x.act(0, 7));
        CHECK.dueThrow("act(0, -1)", () -> x.act(0, -1));
        x.undo();
        CHECK.dueThrow("act(11, 0) undone", () -> x.act(11, 0));
        due("act(10, 0)", x.act(10, 0), 0);
        for (int no : FAR) {
            CHECK.dueThrow("plant(" + no + ", 0)", () -> x.plant(no, 0));
            CHECK.dueThrow("plant(0, " + no + ")", () -> x.plant(0, no));
            CHECK.dueThrow("act(" + no + ", 0)", () -> x.act(no, 0));
            CHECK.dueThrow("act(0, " + no + ")", () -> x.act(0, no));
        }
    }

    private static void comes() {
        says("The DAY on which the leaf of a PLANT for an ACT comes (or came); NONE: it puts up none, no such ones.");
        ParlourLeaves x = house();
        due("ahead of any act", x.comes(0, 0), NONE);
        x.does(0, 0, 0);
        due("it comes", x.comes(0, 0), 3);
        onDay(x, 60);
        due("it came", x.comes(0, 0), 3);
        due("it does not see it", x.comes(1, 0), NONE);
        due("a fern", x.comes(2, 0), NONE);
        x.does(0, 0, 0);
        due("a blind one", x.comes(0, 1), NONE);
        for (int[] no : new int[][] {{-1, 0}, {4, 0}, {0, -1}, {0, 2}, {0, 12}, {5, 0}, {6, 0}}) {
            due("comes(" + no[0] + ", " + no[1] + ")", x.comes(no[0], no[1]), NONE);
        }
        for (int no : FAR) {
            due("comes(" + no + ", 0)", x.comes(no, 0), NONE);
            due("comes(0, " + no + ")", x.comes(0, no), NONE);
        }
        x.undo();
        due("undone", x.comes(0, 1), NONE);
    }

    private static void sightsAndNow() {
        says("PARLOURS in SIGHT of a PARLOUR, as bits; NONE: no such one.");
        due("of none", new ParlourLeaves().sights(0), NONE);
        due("the last of five", house(FULL).sights(4), 15);
        due("beyond five", house(FULL).sights(5), NONE);
        ParlourLeaves x = house();
        due("none in sight", x.sights(3), 0);
        due("sights(4)", x.sights(4), NONE);
        due("sights(-1)", x.sights(-1), NONE);
        says("7 PARLOURS that nothing SEES, as bits. NONE for another what.");
        due("now(7)", x.now(7), 8);
        due("now(8)", x.now(8), NONE);
        due("now(-1)", x.now(-1), NONE);
        for (int no : FAR) {
            due("sights(" + no + ")", x.sights(no), NONE);
            due("now(" + no + ")", x.now(no), NONE);
        }
        says("3 PLANTS that SEE something, 4 that have DUST, as bits,");
        due("all but the fern see", x.now(3), 11);
        due("none has dust", x.now(4), 0);
        x.days(1);
        due("all have dust of one", x.now(4), 15);
        x.sponge(0);
        x.days(3);
        due("the first alone sees", x.now(3), 1);
        due("it sees front and hall", x.now(7), 10);
        ParlourLeaves full = house(FULL);
        doTimes(full, 12, 0);
        due("leaves of twelve and six", full.now(6), 72);
        onDay(full, 108);
        due("all have come", full.now(5), 72);
        due("none will", full.now(6), 0);
        due("twelve proved", full.now(2), 4095);
        due("six with dust", full.now(4), 63);
        due("five unseen", full.now(7), 31);
    }

    // ---- Promises 11 to 15

    private static void doing() {
        ParlourLeaves x = house();
        x.days(1);
        String before = state(x);
        says("A PERSON DOES a DEED in a PARLOUR: 0, or why not; NONE: no such ones.");
        for (int[] no : new int[][] {{-1, 0, 0}, {2, 0, 0}, {0, -1, 0}, {0, 2, 0}, {0, 0, -1}, {0, 0, 4}, {2, 2, 4}, {MIN, MAX, MIN}}) {
            due("does(" + no[0] + ", " + no[1] + ", " + no[2] + ")", x.does(no[0], no[1], no[2]), NONE);
        }
        says("A PLANT is SPONGED: 0, or why not; NONE: no such one.",
            "It is CARRIED to a PARLOUR: 0, or why not; NONE: no such ones.");
        for (int no : new int[] {-1, 4, 5, 6, MIN, MAX}) {
            due("sponge(" + no + ")", x.sponge(no), NONE);
            due("carry(" + no + ", 0)", x.carry(no, 0), NONE);
            due("carry(0, " + no + ")", x.carry(0, no), NONE);
        }
        due("carry(3, 2)", x.carry(3, 2), 1);
        due("all stays", state(x), before);
        due("nothing of it can be undone", x.undo(), 0);
        due("the last of each", x.does(1, 1, 3), 0);
        due("the last plant, the last parlour", x.carry(3, 3), 0);
        x.days(1);
        due("the last plant", x.sponge(3), 0);
        ParlourLeaves none = new ParlourLeaves();
        due("does in none", none.does(0, 0, 0), NONE);
        due("sponge in none", none.sponge(0), NONE);
        due("carry in none", none.carry(0, 0), NONE);
        // No such ones ahead of twelve that were done.
        doTimes(x, 12, 0);
        due("none such behind twelve", x.does(0, 0, 4), NONE);
        due("behind twelve", x.does(0, 0, 3), 1);
    }

    private static void days() {
        says("n (1 to 60) DAYS go by: how many did; NONE: not as told.");
        ParlourLeaves x = house();
        for (int no : new int[] {0, -1, 61, 100, MIN, MAX}) {
            due("days(" + no + ")", x.days(no), NONE);
            due("no day went", x.now(0), 0);
        }
        due("nothing to undo", x.undo(), NONE);
        due("days(1)", x.days(1), 1);
        due("days(60)", x.days(60), 60);
        due("day 61", x.now(0), 61);
        onDay(x, 340);
        due("days(60) to the last", x.days(60), 60);
        due("day 400", x.now(0), 400);
        x.undo();
        x.days(1);
        due("days(60) of 59", x.days(60), 59);
        x.undo();
        onDay(x, 399);
        due("days(60) of one", x.days(60), 1);
        due("days(1) of none", x.days(1), 0);
        due("days(60) of none", x.days(60), 0);
        due("days(61) of none", x.days(61), NONE);
        due("the one is undone", x.undo() >= 0 ? x.now(0) : NONE, 399);
    }

    private static void undoKept() {
        says("how many more can be (8 at most are kept); NONE: none is.");
        ParlourLeaves x = house();
        due("ahead of any", x.undo(), NONE);
        for (int kept = 1; kept <= 20; kept++) {
            ParlourLeaves y = house();
            for (int k = 0; k < kept; k++) {
                y.days(1);
            }
            for (int k = Math.min(8, kept) - 1; k >= 0; k--) {
                due("undo() of " + kept, y.undo(), k);
            }
            due("one more than is kept of " + kept, y.undo(), NONE);
            due("day behind all of " + kept, y.now(0), Math.max(0, kept - 8));
        }
        // Some undone, others done behind them.
        for (int k = 0; k < 12; k++) {
            x.days(1);
        }
        due("undo() of twelve", x.undo(), 7);
        due("undo()", x.undo(), 6);
        due("undo()", x.undo(), 5);
        due("day", x.now(0), 9);
        x.days(10);
        x.days(10);
        due("undo() of two", x.undo(), 6);
        due("day", x.now(0), 19);
        due("undo()", x.undo(), 5);
        due("day", x.now(0), 9);
        for (int k = 4; k >= 0; k--) {
            due("undo() of the rest", x.undo(), k);
        }
        due("day of the oldest", x.now(0), 4);
        due("no more", x.undo(), NONE);
        due("the day stays", x.now(0), 4);
    }

    private static void undoKinds() {
        says("The latest of does(), sponge(), carry() that was done, days() above 0, drawn() above 0,"
            + " a BOOK of which some LINE was lived is undone");
        ParlourLeaves x = house();
        x.days(1);
        String before = state(x);
        due("a deed", x.does(0, 0, 0) == 0 ? x.undo() : NONE, 1);
        due("all as before a deed", state(x), before);
        due("a sponging", x.sponge(1) == 0 ? x.undo() : NONE, 1);
        due("a carrying", x.carry(1, 3) == 0 ? x.undo() : NONE, 1);
        due("days", x.days(60) == 60 ? x.undo() : NONE, 1);
        due("drawn days", x.drawn(20, 7) == 20 ? x.undo() : NONE, 1);
        due("all as before those", state(x), before);
        due("a book", book(x, "ann does lie den;day 2;sponge old;carry old den;", 1) == NONE ? x.undo() : NONE, 1);
        due("a book's first line", book(x, "day 2;carry old front;", 1) == 1 ? x.undo() : NONE, 1);
        due("all as before all", state(x), before);
        // Not done: none of these is kept.
        x.does(0, 0, 9);
        x.sponge(9);
        x.carry(0, 0);
        x.carry(0, 9);
        x.days(0);
        x.drawn(0, 1);
        book(x, "day 5;", 0);
        book(x, "", 1);
        book(x, "carry old front;day 1;", 1);
        book(x, "day 1;?", 1);
        x.book(2);
        due("none of those", x.undo(), 0);
        due("but the day ahead of them", x.now(0), 0);
        ParlourLeaves y = onDay(house(), 400);
        y.sponge(0);
        due("no day is left", y.days(1) + y.drawn(1, 1) + book(y, "day 1;", 1), 0);
        due("days() and drawn() of 0 are not kept", y.undo() >= 0 && y.plant(0, 3) == 99, true);
        due("the thirteenth", twelveAndOneMore(), 7);
    }

    private static int twelveAndOneMore() {
        ParlourLeaves x = house();
        doTimes(x, 13, 0);
        int more = x.undo();
        return x.now(1) == 11 ? more : NONE;
    }

    // ---- Promises 16 to 21

    private static void guiltyAndProves() {
        says("Whether a PERSON is PROVED to have done a DEED (some ACT of his): 1, 0; NONE: no such ones.");
        ParlourLeaves x = house();
        x.does(0, 0, 2);
        x.does(1, 1, 2);
        onDay(x, 20);
        int[][] due = {{1, 0}, {0, 1}};
        for (int person = 0; person < 2; person++) {
            for (int d = 0; d < 2; d++) {
                due("guilty(" + person + ", " + d + ")", x.guilty(person, d), due[person][d]);
            }
        }
        ParlourLeaves twelve = house();
        doTimes(twelve, 11, 0);
        twelve.does(1, 1, 2);
        due("the last of twelve, ahead of its leaves", twelve.guilty(1, 1), 0);
        onDay(twelve, 60);
        due("the last of twelve", twelve.guilty(1, 1), 1);
        due("the first of twelve", twelve.guilty(0, 0), 1);
        due("neither", twelve.guilty(1, 0), 0);
        says("PROVES: the DAY (past ones, too); NONE: never (not by DAY 400), no such ACT.");
        due("past", x.proves(0), 2);
        x.does(0, 1, 3);
        due("never", x.proves(2), NONE);
        for (int no : new int[] {-1, 3, 12, MIN, MAX}) {
            due("proves(" + no + ")", x.proves(no), NONE);
        }
        for (int no : new int[] {-1, 2, 4, MIN, MAX}) {
            due("guilty(" + no + ", 0)", x.guilty(no, 0), NONE);
            due("guilty(0, " + no + ")", x.guilty(0, no), NONE);
        }
        due("guilty in none", new ParlourLeaves().guilty(0, 0), NONE);
        due("proves in none", new ParlourLeaves().proves(0), NONE);
    }

    private static void hidesAndDark() {
        says("HIDES in k (0 to 60) DAYS: PARLOURS, as bits; NONE: not as told.");
        ParlourLeaves x = house();
        due("hides(0)", x.hides(0), 15);
        due("hides(60)", x.hides(60), 8);
        says("DARK of a PARLOUR: how many DAYS (0: now; not beyond DAY 400); NONE: no such one, longer.");
        due("dark now", x.dark(3), 0);
        for (int no : new int[] {-1, 61, MIN, MAX}) {
            due("hides(" + no + ")", x.hides(no), NONE);
        }
        for (int no : new int[] {-1, 4, 5, MIN, MAX}) {
            due("dark(" + no + ")", x.dark(no), NONE);
        }
        due("dark in none", new ParlourLeaves().dark(0), NONE);
        for (int dusty : new int[] {1, 4, 60}) {
            ParlourLeaves y = onDay(house("parlour a;plant p a 1;dusty " + dusty + ";"), 399 - dusty);
            y.sponge(0);
            due("a day ahead of the last", y.dark(0), dusty);
            y.days(1);
            y.sponge(0);
            due("on the last day", y.dark(0), dusty);
            y.days(1);
            y.sponge(0);
            due("longer", y.dark(0), NONE);
            onDay(y, 400);
            y.sponge(0);
            due("on the last day it is seen", y.dark(0), NONE);
        }
        ParlourLeaves z = onDay(house(), 400);
        due("now, on the last day", z.dark(0), 0);
    }

    private static void fitsAndAsk() {
        says("FITS: PARLOURS, as bits; NONE: not as told.",
            "ASK by the latest fits() above 0 (as it was then); NONE ahead of any.");
        ParlourLeaves x = house();
        due("ahead of any", x.ask(), NONE);
        due("not as told", fits(x, 0), NONE);
        due("the tape is empty", x.count(6), 0);
        due("still ahead of any", x.ask(), NONE);
        due("nowhere", fits(x, 2, 1), 0);
        due("the tape is empty", x.count(6), 0);
        due("still ahead of any", x.ask(), NONE);
        due("back and den", fits(x, 0, 0), 10);
        due("new sees one of two", x.ask(), 1);
        due("the tape is empty", x.count(6), 0);
        due("nowhere", fits(x, 2, 1), 0);
        due("the latest above 0", x.ask(), 1);
        due("not as told", fits(x, 9, 9), NONE);
        due("the latest above 0", x.ask(), 1);
        x.carry(1, 0);
        x.days(4);
        due("as it was then", x.ask(), 1);
        house(x, "");
        due("behind another house", x.ask(), 1);
        due("not as told without plants", fits(x, 0, 0), NONE);
        due("the latest above 0", x.ask(), 1);
    }

    // ---- Promises 22 to 30

    private static void coverAndRound() {
        says("COVER: how many PARLOURS.",
            "Which, as bits, by the latest cover(); NONE ahead of any.");
        ParlourLeaves x = house();
        due("covering() ahead of any", x.covering(), NONE);
        due("cover()", x.cover(), 2);
        house(x, "");
        due("by the latest", x.covering(), 12);
        due("of none", x.cover(), 0);
        due("of none", x.covering(), 0);
        says("ROUND from a PARLOUR: how many steps; NONE: one can not come to all, no such one.");
        due("without parlours", x.round(0), NONE);
        says("The PARLOUR behind the k-th step (from 0) by the latest round() that was not NONE; NONE: none such, or ahead of any.");
        due("ahead of any", x.roundAt(0), NONE);
        house(x, HOUSE);
        x.days(1);
        due("to the den one can not come", x.round(0), NONE);
        due("still ahead of any", x.roundAt(0), NONE);
        x.sponge(2);
        due("round(1)", x.round(1), 2);
        due("roundAt(0)", x.roundAt(0), 2);
        due("roundAt(1)", x.roundAt(1), 0);
        for (int no : new int[] {-1, 4, 5, MIN, MAX}) {
            due("round(" + no + ")", x.round(no), NONE);
        }
        due("round(3)", x.round(3), NONE);
        due("by the latest that was found", x.roundAt(1), 0);
        for (int no : new int[] {-1, 2, 3, 160, MIN, MAX}) {
            due("roundAt(" + no + ")", x.roundAt(no), NONE);
        }
        house(x, HOUSE);
        due("behind another house", x.roundAt(1), 0);
        due("no steps", x.round(0), 0);
        due("none such of no steps", x.roundAt(0), NONE);
    }

    private static void choiceAndElder() {
        says("CHOICE: how many PLANTS; NONE: there are no PARLOURS.",
            "2 the PARLOUR of the family. NONE for another what, or ahead of any.");
        ParlourLeaves x = new ParlourLeaves();
        due("without parlours", x.choice(), NONE);
        for (int what = -1; what <= 3; what++) {
            due("chosen(" + what + ") ahead of any", x.chosen(what), NONE);
        }
        house(x, HOUSE);
        due("choice()", x.choice(), 1);
        for (int no : new int[] {-1, 3, MIN, MAX}) {
            due("chosen(" + no + ")", x.chosen(no), NONE);
        }
        x.days(4);
        due("of blind ones, behind another", x.choice(), 0);
        due("none is carried", x.chosen(0), NONE);
        due("nowhere", x.chosen(1), NONE);
        x.undo();
        due("choice()", x.choice(), 1);
        house(x, "");
        due("without parlours", x.choice(), NONE);
        int[] due = {0, 3, 0};
        for (int what = 0; what < 3; what++) {
            due("chosen(" + what + ") by the latest that was not NONE", x.chosen(what), due[what]);
        }
        says("The PLANT with most leaves that have COME (of like ones the first); NONE: none has any.");
        due("without plants", x.elder(), NONE);
        house(x, FULL);
        due("none has any", x.elder(), NONE);
        x.does(0, 0, 0);
        due("none has come", x.elder(), NONE);
        x.days(1);
        due("of like ones", x.elder(), 0);
        ParlourLeaves y = house("parlour a;parlour b;plant p a 9;plant q a 1;plant r b 1;plant s a 1;person n;deed d;dusty 60;");
        y.does(0, 0, 0);
        y.does(0, 0, 1);
        y.days(1);
        due("the first of three", y.elder(), 1);
        y.does(0, 0, 1);
        y.days(1);
        due("the one with two", y.elder(), 2);
        y.does(0, 0, 0);
        y.days(1);
        due("two are like", y.elder(), 1);
        onDay(y, 18);
        due("three are like", y.elder(), 0);
    }

    private static void cards() {
        says("CARD of a PLANT: how many bytes; NONE: no such one.",
            "Byte i of the latest CARD; NONE: none such.");
        ParlourLeaves x = house();
        due("ahead of any", x.byteAt(0), NONE);
        for (int no : new int[] {-1, 4, 6, MIN, MAX}) {
            due("card(" + no + ")", x.card(no), NONE);
            due("still ahead of any", x.byteAt(0), NONE);
        }
        due("card(2)", x.card(2), 15);
        due("the first", x.byteAt(0), 'g');
        due("the last", x.byteAt(14), 'n');
        for (int no : new int[] {-1, 15, 16, MIN, MAX}) {
            due("byteAt(" + no + ")", x.byteAt(no), NONE);
        }
        due("card(4)", x.card(4), NONE);
        due("of the latest", x.byteAt(14), 'n');
        due("card(0)", x.card(0), 9);
        due("the last", x.byteAt(8), '0');
        due("none of the longer one ahead of it", x.byteAt(9), NONE);
        x.days(5);
        due("as it was", x.byteAt(8), '0');
        due("card in none", new ParlourLeaves().card(0), NONE);
    }

    // ---- Promises 31 and 32

    private static void drawn() {
        says("n (1 to 60) DAYS DRAWN by a seed: how many went by; NONE: not as told.");
        ParlourLeaves x = house();
        for (int no : new int[] {0, -1, 61, MIN, MAX}) {
            due("drawn(" + no + ", 1)", x.drawn(no, 1), NONE);
        }
        due("all stays", state(x), state(house()));
        due("nothing to undo", x.undo(), NONE);
        due("drawn(1, 1)", x.drawn(1, 1), 1);
        due("drawn(60, 1)", x.drawn(60, 1), 60);
        due("day", x.now(0), 61);
        onDay(x, 341);
        due("drawn(60, 1) of 59", x.drawn(60, 1), 59);
        String before = state(x);
        for (int seed = 0; seed < 20; seed++) {
            due("drawn of none", x.drawn(60, seed), 0);
        }
        due("drawn(61, 1) of none", x.drawn(61, 1), NONE);
        due("nothing is done on the last day", state(x), before);
        due("the 59 are undone", x.undo() >= 0 ? x.now(0) : NONE, 341);
        // As many days as are left are those that would be drawn first.
        ParlourLeaves y = onDay(house(), 395);
        ParlourLeaves z = onDay(house(), 395);
        y.drawn(60, 11);
        z.drawn(5, 11);
        due("those that are left", state(y), state(z));
        // Without persons days go by all the same.
        due("without persons", new ParlourLeaves().drawn(60, 1), 60);
    }

    private static int provedBySeed(ParlourLeaves x, int person, int seed) {
        int gone = x.drawn(20, seed);
        boolean some = false;
        for (int i = 0; i < x.now(1); i++) {
            some |= x.act(i, 0) == person && x.act(i, 6) == 1;
        }
        if (gone > 0) {
            x.undo();
        }
        return some ? 1 : 0;
    }

    private static void odds() {
        says("Of n (1 to 30) seeds x, x and 1, .. by how many some ACT of a PERSON is PROVED behind 20 DAYS DRAWN from now on;"
            + " NONE: no such ones.");
        ParlourLeaves x = house();
        for (int no : new int[] {0, -1, 31, MIN, MAX}) {
            due("odds(0, " + no + ", 1)", x.odds(0, no, 1), NONE);
        }
        for (int no : new int[] {-1, 2, 4, MIN, MAX}) {
            due("odds(" + no + ", 1, 1)", x.odds(no, 1, 1), NONE);
        }
        due("odds in none", new ParlourLeaves().odds(0, 1, 1), NONE);
        for (int start : new int[] {1, MAX - 3, MAX, MIN, -2}) {
            for (int person = 0; person < 2; person++) {
                int sum = 0;
                for (int k = 0; k < 30; k++) {
                    if (k == 1 || k == 6 || k == 29) {
                        due("odds(" + person + ", " + k + ", " + start + ")", x.odds(person, k, start), sum);
                    }
                    sum += provedBySeed(house(), person, start + k);
                }
                due("odds(" + person + ", 30, " + start + ")", x.odds(person, 30, start), sum);
            }
        }
        due("all stays", state(x), state(house()));
        due("nothing to undo", x.undo(), NONE);
        // Fewer than twenty days are left: those go.
        for (int day : new int[] {380, 381, 395, 399, 400}) {
            ParlourLeaves y = onDay(house("parlour a;plant p a 2;person n;person m;deed d;proof 1;dusty 60;"), 370);
            y.sponge(0);
            onDay(y, day);
            int sum = 0;
            for (int k = 0; k < 12; k++) {
                sum += provedBySeed(y, 1, 100 + k);
            }
            due("odds() on day " + day, y.odds(1, 12, 100), sum);
        }
    }

    // ---- Promises 33 and 34

    private static void books() {
        says("-2 less the place of a FAULT; -1000: another lives (the tape stays).");
        ParlourLeaves x = house();
        Check.tape(x, "day 1;");
        for (int no : new int[] {-1, 2, MIN, MAX}) {
            due("book(" + no + ")", x.book(no), -1000);
            due("the tape stays", x.count(6), 6);
        }
        due("told(0) ahead of any", x.told(0), NONE);
        due("the tape as it was", x.book(1), NONE);
        due("the tape is empty", x.count(6), 0);
        due("a fault at 0", book(x, "?", 1), -2);
        due("the tape is empty", x.count(6), 0);
        due("a fault at the last byte", book(x, pad399() + "?", 1), -401);
        due("a fault behind a line that is none", book(x, "day 1;?", 1), -8);
        due("of it nothing is lived", x.now(0), 1);
        says("it is judged, all staying as it is (lives 0), or lived as far as it is not WRONG (1):"
            + " the LINE that is WRONG; NONE: none;");
        String before = state(x);
        due("judged", book(x, "ann does lie hall;day 2;sponge old;carry old den;carry old den;", 0), 4);
        due("all stays", state(x), before);
        due("told(0)", x.told(0), 21);
        due("told(2)", x.told(2), 3);
        due("lived", book(x, "ann does lie hall;day 2;sponge old;carry old den;carry old den;day 9;", 1), 4);
        due("as far", x.now(0), 3);
        due("the act", x.act(0, 3), 1);
        due("sponged", x.plant(0, 3), 0);
        due("carried", x.plant(0, 0), 3);
        due("the first line is wrong", book(x, "carry old den;day 9;", 1), 0);
        due("nothing lived", x.now(0), 3);
        due("the last of forty is wrong", book(x, times(39, "day 1;") + "carry old den;", 0), 39);
        due("an empty one", x.book(1), NONE);
    }

    private static String pad399() {
        return "day 1;" + blanks(393);
    }

    private static void dueTold(ParlourLeaves x, int why, int right, int day, int proved) {
        int[] due = {why, right, day, proved};
        for (int what = 0; what < 4; what++) {
            due("told(" + what + ")", x.told(what), due[what]);
        }
    }

    private static void told() {
        says("0 why it was WRONG (0: it was not; 1 as for doing, 11 sponging, 21 carrying; 31: fewer DAYS are left),"
            + " 1 LINES that are not, 2 the DAY then, 3 ACTS that are PROVED then, as bits. NONE: another what, or ahead of any.");
        ParlourLeaves x = house();
        dueTold(x, NONE, NONE, NONE, NONE);
        book(x, "?", 0);
        dueTold(x, NONE, NONE, NONE, NONE);
        book(x, "", 0);
        dueTold(x, 0, 0, 0, 0);
        book(x, "ann does lie hall;day 1;", 0);
        dueTold(x, 0, 2, 1, 0);
        book(x, "ann does lie hall;day 2;", 0);
        dueTold(x, 0, 2, 2, 1);
        book(x, "day 1;?", 1);
        x.book(2);
        dueTold(x, 0, 2, 2, 1);
        for (int no : new int[] {-1, 4, MIN, MAX}) {
            due("told(" + no + ")", x.told(no), NONE);
        }
        book(x, "sponge old;", 0);
        dueTold(x, 11, 0, 0, 0);
        book(x, "day 1;sponge old;sponge old;day 9;", 0);
        dueTold(x, 11, 2, 1, 0);
        book(x, "carry old front;", 0);
        dueTold(x, 21, 0, 0, 0);
        book(x, "carry old hall;carry old front;carry old front;", 0);
        dueTold(x, 21, 2, 0, 0);
        book(x, times(12, "ann does lie hall;"), 1);
        dueTold(x, 0, 12, 0, 0);
        book(x, "bob does kiss den;", 1);
        dueTold(x, 1, 0, 0, 0);
        onDay(x, 340);
        book(x, "day 60;", 0);
        dueTold(x, 0, 1, 400, 4095);
        book(x, "day 60;day 1;", 0);
        dueTold(x, 31, 1, 400, 4095);
        x.days(1);
        book(x, "day 60;", 1);
        dueTold(x, 31, 0, 341, 4095);
        due("none of the days went", x.now(0), 341);
        book(x, "day 59;sponge old;", 1);
        dueTold(x, 0, 2, 400, 4095);
        house(x, "");
        dueTold(x, 0, 2, 400, 4095);
    }

    // ---- Promises 35 to 39

    private static void sentences() {
        says("The tape is the SENTENCE now: how many ONES (each not, bracket and other one); -1 less the place of a FAULT: it stays.",
            "PLANTS of which it may be said: how many (k NONE), or the k-th. NONE: there is no SENTENCE, none such.");
        ParlourLeaves x = house();
        due("none yet", x.said(NONE), NONE);
        due("none yet", x.said(0), NONE);
        due("an empty tape", x.sentence(), -1);
        due("none yet", x.said(NONE), NONE);
        due("one of each", sentence(x, "not(blind or fern)and not in den"), 6);
        due("the tape is empty", x.count(6), 0);
        due("three", x.said(NONE), 3);
        due("the first", x.said(0), 0);
        due("the last", x.said(2), 3);
        for (int no : new int[] {3, 4, 6, -2, MIN, MAX}) {
            due("said(" + no + ")", x.said(no), NONE);
        }
        due("a fault", sentence(x, "fern and"), -9);
        due("the tape is empty", x.count(6), 0);
        due("it stays", x.said(NONE), 3);
        due("a fault at 0", sentence(x, "?"), -1);
        due("it stays", x.said(2), 3);
        due("of none", sentence(x, "leaves > 0"), 1);
        due("none", x.said(NONE), 0);
        due("no first", x.said(0), NONE);
        due("of all", sentence(x, "leaves = 0"), 1);
        due("four", x.said(NONE), 4);
        due("the last of four", x.said(3), 3);
        due("no fifth", x.said(4), NONE);
        house(x, "parlour a;");
        due("another house has none", x.said(NONE), NONE);
        sentence(x, "fern or not fern");
        due("without plants", x.said(NONE), 0);
        due("without plants", x.said(0), NONE);
        ParlourLeaves full = house(FULL);
        sentence(full, "not fern");
        due("six", full.said(NONE), 6);
        due("the last of six", full.said(5), 5);
        due("no seventh", full.said(6), NONE);
    }

    private static void images() {
        says("HOUSE, all that is so and the SENTENCE are kept in place k (0, 1): true; false: no such one.",
            "They are as kept in place k (the tape, and what other calls told last, stays; nothing can be undone): true;"
            + " false: no such one, or nothing is kept there.");
        ParlourLeaves x = house();
        for (int no : new int[] {-1, 2, MIN, MAX}) {
            due("image(" + no + ")", x.image(no), false);
            due("restore(" + no + ")", x.restore(no), false);
        }
        x.days(1);
        due("nothing is kept in 0", x.restore(0), false);
        due("nothing is kept in 1", x.restore(1), false);
        due("and what could be undone stays", x.undo(), 0);
        x.days(2);
        x.does(0, 0, 2);
        sentence(x, "in hall");
        String one = state(x);
        due("image(1)", x.image(1), true);
        due("nothing is kept in 0 still", x.restore(0), false);
        due("what could be undone stays", x.undo(), 1);
        x.fits();
        x.choice();
        card(x, 2);
        book(x, "day 3;", 1);
        house(x, "parlour x;dusty");
        Check.tape(x, "abc");
        String told = latest(x);
        due("restore(1)", x.restore(1), true);
        due("all as kept", state(x), one);
        due("the tape and what was told stays", latest(x), told);
        due("nothing can be undone", x.undo(), NONE);
        due("restore(0)", x.restore(0), false);
    }

    private static void imagesOfHouses() {
        says("They are as kept in place k");
        ParlourLeaves x = new ParlourLeaves();
        due("image(0) of none", x.image(0), true);
        house(x, FULL);
        x.does(3, 4, 4);
        x.days(60);
        sentence(x, "leaves = 1");
        due("image(1)", x.image(1), true);
        String full = state(x);
        due("restore(0)", x.restore(0), true);
        due("the house of none", state(x), state(new ParlourLeaves()));
        due("no names", book(x, "sponge p;", 1), -9);
        due("restore(1)", x.restore(1), true);
        due("the full house", state(x), full);
        due("its names", book(x, "sponge u;", 1), NONE);
        due("restore(1) again", x.restore(1), true);
        due("what was done behind it is not kept", state(x), full);
        due("done behind it, it can be undone", x.days(1) == 1 ? x.undo() : NONE, 0);
        due("image(0) anew", x.image(0), true);
        house(x, HOUSE);
        due("restore(0) anew", x.restore(0), true);
        due("the later one", state(x), full);
    }

    private static void count() {
        says("6 bytes of the tape. NONE for another what.");
        ParlourLeaves x = house(FULL);
        x.feed(0, 0, 0, 0, 0);
        int[] all = {5, 6, 4, 5, 60, 6, 20};
        for (int what = 0; what < 7; what++) {
            due("count(" + what + ")", x.count(what), all[what]);
        }
        due("count(7)", x.count(7), NONE);
        due("count(-1)", x.count(-1), NONE);
        for (int no : FAR) {
            due("count(" + no + ")", x.count(no), NONE);
        }
    }

    public static void main(String[] args) {
        calls();
        newObject();
        feed();
        end();
        houses();
        fault();
        plantAndAct();
        comes();
        sightsAndNow();
        doing();
        days();
        undoKept();
        undoKinds();
        guiltyAndProves();
        hidesAndDark();
        fitsAndAsk();
        coverAndRound();
        choiceAndElder();
        cards();
        drawn();
        odds();
        books();
        told();
        sentences();
        images();
        imagesOfHouses();
        count();
        CHECK.finish();
    }
}
