/** Each promise of the document by ordinary inputs, the edges that it names, and wrong inputs. */
public final class PromisesTest extends Play {
    private static void newObject() {
        ParlourLeaves x = new ParlourLeaves();
        int[] counts = {0, 0, 0, 0, 6, 2, 0, NONE};
        for (int k = 0; k < counts.length; k++) {
            due("new: count(" + k + ")", x.count(k), counts[k]);
        }
        for (int k = 0; k < 8; k++) {
            due("new: now(" + k + ")", x.now(k), 0);
        }
        due("new: fault()", x.fault(), 0);
        due("new: undo()", x.undo(), NONE);
        due("NONE", NONE, -1);
    }

    private static void feed() {
        ParlourLeaves x = new ParlourLeaves();
        for (int k = 1; k <= 47; k++) {
            due("feed", x.feed(-1, 2, 3, 4, 5), 20 * k);
        }
        due("feed beyond 940", x.feed(1, 2, 3, 4, 5), NONE);
        due("tape at 940", x.count(6), 940);
        x.end(921);
        due("feed to 941", x.feed(1, 2, 3, 4, 5), NONE);
        x.end(920);
        due("feed to 940", x.feed(1, 2, 3, 4, 5), 940);
        // The highest byte first, and a byte above 127 is no token.
        x = new ParlourLeaves();
        x.feed('d' << 24 | 'u' << 16 | 's' << 8 | 't', 'y' << 24 | ' ' << 16 | '9' << 8 | ';', 0, 0, 0);
        x.end(8);
        due("house() by bytes", x.house(), 1);
        due("dusty by bytes", x.count(4), 9);
        x.feed(0xe1000000, 0, 0, 0, 0);
        x.end(1);
        due("house() of a high byte", x.house(), -1);
        due("fault() of a high byte", x.fault(), 1);
    }

    private static void end() {
        ParlourLeaves x = new ParlourLeaves();
        due("end(0) of none", x.end(0), true);
        due("end(1) of none", x.end(1), false);
        due("end(-1)", x.end(-1), false);
        x.feed(0, 0, 0, 0, 0);
        due("end(21)", x.end(21), false);
        due("tape stays", x.count(6), 20);
        due("end(20)", x.end(20), true);
        due("end(7)", x.end(7), true);
        due("tape of 7", x.count(6), 7);
        due("end(8) of 7", x.end(8), false);
        due("feed behind 7", x.feed(0, 0, 0, 0, 0), 27);
    }

    private static void houseText() {
        dueHouse("", 0, 0);
        dueHouse(" \n ", 0, 0);
        dueHouse(HOUSE, 16, 0);
        dueHouse("parlour a\n;parlour b;sight b a ; plant p a 009 fern;", 4, 0);
        dueHouse("person a;person b;person c;person d;", 4, 0);
        dueHouse("deed abcdefg;", 1, 0);
        dueHouse("parlour a;plant p a 009fern;", -21, 1);
        ParlourLeaves x = house();
        onDay(x, 3);
        x.does(0, 0, 0);
        sentence(x, "blind");
        Check.tape(x, "parlour x; parlour ?");
        due("house() with a fault", x.house(), -20);
        due("the house stays", x.count(0), 4);
        due("the day stays", x.now(0), 3);
        due("the sentence stays", x.said(NONE), 1);
        due("undo goes on", x.undo(), 1);
        Check.tape(x, "parlour x;dusty 60;proof 6;");
        due("another house", x.house(), 3);
        due("its parlours", x.count(0), 1);
        due("its dusty", x.count(4), 60);
        due("its proof", x.count(5), 6);
        due("its day", x.now(0), 0);
        due("its acts", x.now(1), 0);
        due("no sentence", x.said(NONE), NONE);
        due("nothing to undo", x.undo(), NONE);
        // The same names again on one object, and nothing of the house before them.
        for (int k = 0; k < 2; k++) {
            Check.tape(x, HOUSE);
            due("the same house again", x.house(), 16);
        }
        x.days(2);
        x.does(0, 0, 0);
        Check.tape(x, "parlour a;parlour b;parlour c;plant p b 2;person n;deed d;");
        x.house();
        due("no sights left", x.sights(0) | x.sights(1) | x.sights(2), 0);
        due("no dust left", x.plant(0, 3), 0);
        due("its parlour", x.plant(0, 0), 1);
        due("no fern", x.plant(0, 2), 0);
        x.does(0, 0, 1);
        due("no leaf left", x.comes(0, 0), 2);
    }

    private static void faults() {
        // 1: no token, or one that can't come.
        dueHouse("parlour abcdefgh;", -9, 1);
        dueHouse("parlour a1;", -9, 1);
        dueHouse("parlour a;dusty 1000;", -17, 1);
        dueHouse("dusty 4a;", -7, 1);
        dueHouse("Parlour a;", -1, 1);
        dueHouse("parlour a.", -10, 1);
        dueHouse("parlour a", -10, 1);
        dueHouse("parlour", -8, 1);
        dueHouse("parlour  ", -10, 1);
        dueHouse("parlour ;", -9, 1);
        dueHouse("parlour 12;", -9, 1);
        dueHouse(";", -1, 1);
        dueHouse("front;", -1, 1);
        dueHouse("\tparlour a;", -1, 1);
        dueHouse("parlour a parlour b;", -11, 1);
        dueHouse("dusty x;", -7, 1);
        dueHouse("parlour a;plant p a 3 3;", -23, 1);
        dueHouse("parlour a;plant p a 3 fern fern;", -28, 1);
        for (String key : ("parlour sight plant fern person deed dusty proof does sponge carry day or and not blind in sees"
                + " tells leaves dust number").split(" ")) {
            dueHouse("person " + key + ";", -8, 1);
            dueHouse("parlour a;sight a " + key + ";", -19, 1);
        }
        dueHouse("person dusti;person leaf;", 2, 0);
        // Low bytes are no tokens, and none of them is taken for a word.
        for (int b = 0; b < 256; b++) {
            if (b != ' ' && b != '\n' && !(b >= 'a' && b <= 'z')) {
                dueHouse((char) b + " 4;", -1, 1);
            }
        }
        dueBook("\u000b 1;", -2, 1);
        dueSentence("\u000f", -1, 1);
        dueSentence("leaves : 1", -8, 1);
        // 2: numbers.
        dueHouse("dusty 0;", -7, 2);
        dueHouse("dusty 61;", -7, 2);
        dueHouse("dusty 060;", 1, 0);
        dueHouse("proof 0;", -7, 2);
        dueHouse("proof 7;", -7, 2);
        dueHouse("parlour a;plant p a 0;", -21, 2);
        dueHouse("parlour a;plant p a 10;", -21, 2);
        // 3: names, what must be unlike, what was told.
        dueHouse("parlour a;deed a;", -16, 3);
        dueHouse("parlour a;parlour a;", -19, 3);
        dueHouse("sight a b;", -7, 3);
        dueHouse("person a;parlour b;sight b a;", -28, 3);
        dueHouse("parlour a;sight a a;", -19, 3);
        dueHouse("parlour a;parlour b;sight a b;sight b a;", -39, 3);
        dueHouse("parlour a;parlour b;sight a b;sight a b", -39, 3);
        dueHouse("parlour a;plant p b 3;", -19, 3);
        dueHouse("parlour a;plant p p 3;", -19, 3);
        dueHouse("dusty 4;dusty ?", -9, 3);
        dueHouse("proof 4;proof 4;", -9, 3);
        // 4: one more of a sort, at the line's first word.
        dueHouse("parlour a;parlour b;parlour c;parlour d;parlour e;parlour a;", -51, 4);
        dueHouse("person a;person b;person c;person d;person", -37, 4);
        dueHouse("deed a;deed b;deed c;deed d;deed e;deed f;", -36, 4);
        dueHouse("parlour a;plant b a 1;plant c a 1;plant d a 1;plant e a 1;plant f a 1;plant g a 1;plant h a 1;", -83, 4);
        // The most bytes.
        dueHouse("parlour a;" + times(890, " "), 1, 0);
        dueHouse("parlour a;" + times(891, " "), -901, 1);
        dueHouse("parlour a;" + times(888, " ") + "person b;", -901, 1);
        dueHouse("parlour a;" + times(888, " ") + "abcdefgh;", -899, 1);
        dueHouse("parlour a;" + times(888, " ") + "parlou r", -899, 1);
        dueHouse("parlour a;" + times(890, " ") + "?", -901, 1);
        dueHouse("parlour a;" + times(889, " ") + "? ", -900, 1);
        dueHouse("dusty 4;" + times(886, " ") + "dusty 5;", -895, 3);
        dueHouse("dusty 4;" + times(886, " ") + "proof 7;", -901, 1);
        dueHouse("dusty 4;" + times(885, " ") + "proof 777;", -900, 2);
    }

    private static void fault() {
        ParlourLeaves x = house();
        Check.tape(x, "dusty 0;");
        x.house();
        due("fault()", x.fault(), 2);
        due("fault() again", x.fault(), 2);
        due("book(7)", x.book(7), -1000);
        due("fault() stays", x.fault(), 2);
        sentence(x, "in nowhere");
        due("fault() of a sentence", x.fault(), 3);
        book(x, "day 1;", 0);
        due("fault() of a sound book", x.fault(), 0);
        book(x, "day;", 0);
        due("fault() of a book", x.fault(), 1);
        sentence(x, "blind");
        due("fault() of a sound sentence", x.fault(), 0);
    }

    private static void plant() {
        ParlourLeaves x = house();
        x.does(0, 0, 2);
        x.does(1, 1, 0);
        x.days(2);
        // old comes on 3 and 6, new on 1, maid on 2 and 4.
        int[][] all = {
            {0, 3, 0, 2, 5, 0, 0, 2}, {1, 1, 0, 2, 6, 1, 1, 0}, {3, 2, 1, 2, 0, 0, 0, 0}, {2, 2, 0, 2, 7, 1, 1, 1}};
        for (int p = 0; p < 4; p++) {
            for (int what = 0; what < 8; what++) {
                due("plant(" + p + ", " + what + ")", x.plant(p, what), all[p][what]);
            }
        }
        x.days(2);
        due("blind plant sees", x.plant(3, 4), 0);
        due("shown acts", x.plant(3, 6), 3);
        due("leaves come", x.plant(3, 5), 2);
        for (int[] no : new int[][] {{-1, 0}, {4, 0}, {0, -1}, {0, 8}, {Integer.MAX_VALUE, 0}, {Integer.MIN_VALUE, 3}}) {
            CHECK.dueThrow("plant(" + no[0] + ", " + no[1] + ")", () -> x.plant(no[0], no[1]));
        }
        onDay(x, 120);
        due("dust", x.plant(2, 3), 99);
    }

    private static void act() {
        ParlourLeaves x = house();
        x.days(1);
        x.does(1, 0, 2);
        int[] all = {1, 0, 2, 1, 0, 11, 0};
        for (int what = 0; what < 7; what++) {
            due("act(0, " + what + ")", x.act(0, what), all[what]);
        }
        x.days(1);
        due("come", x.act(0, 4), 2);
        due("still to come behind one", x.act(0, 5), 9);
        due("proved by one", x.act(0, 6), 0);
        x.days(1);
        due("come", x.act(0, 4), 10);
        due("still to come behind two", x.act(0, 5), 1);
        due("proved by two", x.act(0, 6), 1);
        x.carry(0, 3);
        due("still to come of one carried off", x.act(0, 5), 1);
        x.days(1);
        due("come", x.act(0, 4), 11);
        due("none to come", x.act(0, 5), 0);
        x.undo();
        due("still to come behind undo()", x.act(0, 5), 1);
        actLeaves();
        for (int[] no : new int[][] {{-1, 0}, {1, 0}, {0, -1}, {0, 7}, {12, 0}}) {
            CHECK.dueThrow("act(" + no[0] + ", " + no[1] + ")", () -> x.act(no[0], no[1]));
        }
    }

    /** Which leaves of an act have come and which are to come, as its days go and on the last day. */
    private static void actLeaves() {
        ParlourLeaves x = house();
        x.does(0, 0, 2);
        x.does(1, 1, 0);
        x.does(1, 0, 3);
        int[][] come = {{0, 0}, {2, 0}, {10, 0}, {11, 0}, {11, 8}, {11, 8}, {11, 9}};
        for (int day = 0; day < come.length; day++) {
            for (int i = 0; i < 2; i++) {
                due("act(" + i + ", 4) on day " + day, x.act(i, 4), come[day][i]);
                due("act(" + i + ", 5) on day " + day, x.act(i, 5), come[come.length - 1][i] - come[day][i]);
            }
            due("act(2, 5): what none sees", x.act(2, 5), 0);
            x.days(1);
        }
        onDay(x, 400);
        x.sponge(3);
        x.does(0, 0, 0);
        due("to come behind the last day", x.act(3, 5), 8);
    }

    private static void comes() {
        ParlourLeaves x = house();
        x.does(0, 0, 0);
        x.does(0, 0, 0);
        x.days(3);
        x.does(0, 0, 0);
        due("comes(0, 0)", x.comes(0, 0), 3);
        due("comes(0, 1)", x.comes(0, 1), 6);
        due("comes(0, 2)", x.comes(0, 2), 9);
        due("comes(3, 1)", x.comes(3, 1), 4);
        due("comes(3, 2)", x.comes(3, 2), 6);
        due("comes(1, 0)", x.comes(1, 0), NONE);
        due("comes(2, 0)", x.comes(2, 0), NONE);
        due("comes(4, 0)", x.comes(4, 0), NONE);
        due("comes(-1, 0)", x.comes(-1, 0), NONE);
        due("comes(0, 3)", x.comes(0, 3), NONE);
        due("comes(0, -1)", x.comes(0, -1), NONE);
        // Behind the day, if the latest leaf came ahead of it.
        ParlourLeaves y = house();
        y.does(0, 0, 1);
        y.days(3);
        y.does(0, 0, 1);
        due("later leaf", y.comes(1, 1), 4);
        // Carried off, a leaf comes all the same; where it is carried, it sees.
        ParlourLeaves z = house();
        z.does(0, 0, 0);
        z.carry(0, 3);
        z.does(0, 0, 3);
        due("leaf of a carried plant", z.comes(0, 0), 3);
        due("leaf elsewhere", z.comes(0, 1), 6);
    }

    private static void sights() {
        ParlourLeaves x = house();
        int[] all = {4, 4, 3, 0};
        for (int l = 0; l < 4; l++) {
            due("sights(" + l + ")", x.sights(l), all[l]);
        }
        due("sights(4)", x.sights(4), NONE);
        due("sights(-1)", x.sights(-1), NONE);
    }

    private static void now() {
        ParlourLeaves x = house();
        x.does(0, 0, 2);
        x.does(1, 1, 3);
        x.days(2);
        x.sponge(1);
        int[] all = {2, 2, 1, 11, 13, 2, 1, 8, NONE};
        for (int what = 0; what < 9; what++) {
            due("now(" + what + ")", x.now(what), all[what]);
        }
        due("now(-1)", x.now(-1), NONE);
        x.days(2);
        due("leaves come, the first plant's, too", x.now(5), 3);
        due("seeing", x.now(3), 2);
        due("unseen", x.now(7), 9);
        x.days(2);
        due("seeing", x.now(3), 0);
        due("unseen", x.now(7), 15);
    }

    private static void does() {
        ParlourLeaves x = house();
        for (int[] no : new int[][] {{-1, 0, 0}, {2, 0, 0}, {0, -1, 0}, {0, 2, 0}, {0, 0, -1}, {0, 0, 4}}) {
            due("does of none such", x.does(no[0], no[1], no[2]), NONE);
        }
        for (int k = 0; k < 12; k++) {
            due("does", x.does(k % 2, 1, 3), 0);
        }
        due("does a 13th", x.does(0, 0, 0), 1);
        due("does of none such", x.does(0, 0, 4), NONE);
        due("acts", x.now(1), 12);
        due("who", x.act(11, 0), 1);
        // The last day takes deeds as every other.
        ParlourLeaves y = onDay(house(), 400);
        due("does on the last day", y.does(0, 0, 0), 0);
        due("its day", y.act(0, 3), 400);
    }

    private static void sponge() {
        ParlourLeaves x = house();
        due("sponge(0) without dust", x.sponge(0), 1);
        x.days(4);
        due("blind", x.plant(0, 4), 0);
        due("sponge(0)", x.sponge(0), 0);
        due("dust", x.plant(0, 3), 0);
        due("dust of another", x.plant(1, 3), 4);
        due("sees again", x.plant(0, 4), 5);
        due("sponge(0) again", x.sponge(0), 1);
        due("a fern is sponged", x.sponge(2), 0);
        due("a fern sees nothing", x.plant(2, 4), 0);
        due("sponge(4)", x.sponge(4), NONE);
        due("sponge(-1)", x.sponge(-1), NONE);
    }

    private static void carry() {
        ParlourLeaves x = house();
        due("carry(0, 0)", x.carry(0, 0), 1);
        due("carry(0, 2)", x.carry(0, 2), 0);
        due("at", x.plant(0, 0), 2);
        due("sees", x.plant(0, 4), 7);
        due("carry(0, 2) again", x.carry(0, 2), 1);
        due("a fern is carried", x.carry(2, 0), 0);
        due("carry(4, 0)", x.carry(4, 0), NONE);
        due("carry(-1, 0)", x.carry(-1, 0), NONE);
        due("carry(0, 4)", x.carry(0, 4), NONE);
        due("carry(0, -1)", x.carry(0, -1), NONE);
    }

    private static void days() {
        ParlourLeaves x = house();
        due("days(0)", x.days(0), NONE);
        due("days(61)", x.days(61), NONE);
        due("days(-1)", x.days(-1), NONE);
        for (int k = 0; k < 6; k++) {
            due("days(60)", x.days(60), 60);
        }
        due("days(38)", x.days(38), 38);
        due("days(5) of two", x.days(5), 2);
        due("day", x.now(0), 400);
        due("days(1) of none", x.days(1), 0);
        due("undo of those that went", x.undo(), 7);
        due("day", x.now(0), 398);
        due("dust", x.plant(0, 3), 99);
    }

    private static void undo() {
        ParlourLeaves x = house();
        x.does(0, 0, 0);
        x.carry(0, 3);
        x.days(2);
        x.sponge(0);
        x.sponge(0);
        x.carry(0, 3);
        due("undo of a sponging", x.undo(), 3);
        due("dust", x.plant(0, 3), 2);
        due("undo of days", x.undo(), 2);
        due("dust", x.plant(0, 3), 0);
        due("day", x.now(0), 0);
        due("undo of carrying", x.undo(), 1);
        due("at", x.plant(0, 0), 0);
        due("undo of a deed", x.undo(), 0);
        due("acts", x.now(1), 0);
        due("leaves", x.now(6), 0);
        x.does(0, 0, 0);
        due("its leaf as if none were before", x.comes(0, 0), 3);
        x.undo();
        due("undo of none", x.undo(), NONE);
        for (int k = 0; k < 10; k++) {
            x.days(1);
        }
        for (int k = 7; k >= 0; k--) {
            due("undo of ten", x.undo(), k);
        }
        due("undo of a ninth", x.undo(), NONE);
        due("day", x.now(0), 2);
        x.drawn(3, 5);
        due("undo of drawn days", x.undo(), 0);
        due("day", x.now(0), 2);
        book(x, "day 1;day 2;carry old front;", 1);
        due("day", x.now(0), 5);
        due("undo of a book", x.undo(), 0);
        due("day", x.now(0), 2);
        book(x, "day 1;", 0);
        due("undo of a judged book", x.undo(), NONE);
        book(x, "carry old front;day 1;", 1);
        book(x, "", 1);
        book(x, "day 0;", 1);
        due("undo of a book not lived", x.undo(), NONE);
        onDay(x, 400);
        x.days(1);
        x.drawn(1, 1);
        due("undo past what did nothing", x.undo(), 6);
        due("day", x.now(0), 362);
        // A sentence is not undone.
        ParlourLeaves y = house();
        y.days(1);
        sentence(y, "fern");
        y.undo();
        due("the sentence stays", y.said(0), 2);
    }

    private static void guilty() {
        ParlourLeaves x = house();
        x.does(0, 0, 2);
        x.does(1, 1, 3);
        x.days(1);
        due("guilty by one leaf", x.guilty(0, 0), 0);
        x.days(1);
        due("guilty", x.guilty(0, 0), 1);
        due("guilty of another deed", x.guilty(0, 1), 0);
        due("guilty, another", x.guilty(1, 0), 0);
        due("guilty, unseen", x.guilty(1, 1), 0);
        due("guilty(2, 0)", x.guilty(2, 0), NONE);
        due("guilty(0, 2)", x.guilty(0, 2), NONE);
        due("guilty(-1, 0)", x.guilty(-1, 0), NONE);
        due("guilty(0, -1)", x.guilty(0, -1), NONE);
    }

    private static void proves() {
        ParlourLeaves x = house();
        x.does(0, 0, 2);
        x.does(1, 1, 0);
        x.does(1, 1, 3);
        due("proves(0)", x.proves(0), 2);
        due("proves(1)", x.proves(1), 6);
        due("proves(2)", x.proves(2), NONE);
        due("proves(3)", x.proves(3), NONE);
        due("proves(-1)", x.proves(-1), NONE);
        x.days(60);
        due("proves(0) behind it", x.proves(0), 2);
        ParlourLeaves y = onDay(house("parlour a;plant p a 2;person n;deed d;proof 1;dusty 60;"), 358);
        y.sponge(0);
        onDay(y, 398);
        y.does(0, 0, 0);
        y.does(0, 0, 0);
        due("proves on the last day", y.proves(0), 400);
        due("proves behind the last day", y.proves(1), NONE);
        due("comes behind the last day", y.comes(0, 1), 402);
    }

    private static void hides() {
        ParlourLeaves x = house();
        due("hides(0)", x.hides(0), 15);
        due("hides(1)", x.hides(1), 9);
        due("hides(2)", x.hides(2), 8);
        due("hides(60)", x.hides(60), 8);
        due("hides(61)", x.hides(61), NONE);
        due("hides(-1)", x.hides(-1), NONE);
        for (int k = 0; k < 12; k++) {
            x.does(0, 0, 1);
        }
        // Twelve leaves of new and none of maid's or old's wait; maid sees all three.
        due("hides(1) behind twelve", x.hides(1), 15);
        due("hides(12) behind twelve", x.hides(12), 10);
        due("hides(13) behind twelve", x.hides(13), 8);
        x.days(4);
        due("hides where all are blind", x.hides(60), 15);
    }

    private static void dark() {
        ParlourLeaves x = house();
        due("dark(0)", x.dark(0), 4);
        due("dark(3)", x.dark(3), 0);
        x.days(2);
        x.sponge(1);
        due("dark(0)", x.dark(0), 2);
        due("dark(1)", x.dark(1), 4);
        due("dark(4)", x.dark(4), NONE);
        due("dark(-1)", x.dark(-1), NONE);
        onDay(x, 396);
        x.sponge(0);
        due("dark on the last day", x.dark(0), 4);
        x.days(1);
        x.sponge(0);
        due("dark behind the last day", x.dark(0), NONE);
        due("dark now", x.dark(1), 0);
        x.days(3);
        due("not dark on the last day", x.dark(0), NONE);
    }

    private static void fitsAndAsk() {
        ParlourLeaves x = house();
        due("ask() ahead of any", x.ask(), NONE);
        due("fits() of none", fits(x), NONE);
        due("fits() of half a pair", fits(x, 0, 1, 1), NONE);
        due("fits() of seven", fits(x, 0, 1, 0, 1, 0, 1, 0, 1, 0, 1, 0, 1, 0, 1), NONE);
        due("fits() of no plant", fits(x, 4, 1), NONE);
        due("fits() of a high byte", fits(x, 255, 1), NONE);
        due("fits() of 2", fits(x, 0, 2), NONE);
        due("fits() wrong behind right", fits(x, 0, 1, 1, 2), NONE);
        due("tape behind fits()", x.count(6), 0);
        due("ask() still", x.ask(), NONE);
        due("fits() of none such", fits(x, 2, 1), 0);
        due("ask() still", x.ask(), NONE);
        due("fits() of six", fits(x, 0, 1, 0, 1, 0, 1, 0, 1, 0, 1, 0, 1), 5);
        due("fits()", fits(x, 2, 0), 15);
        due("ask(): two of four", x.ask(), 0);
        due("fits()", fits(x, 0, 0), 10);
        due("ask(): back of back and den", x.ask(), 1);
        due("fits()", fits(x, 0, 0, 1, 1), 2);
        due("ask(): the first of like ones", x.ask(), 0);
        due("fits() against itself", fits(x, 0, 0, 0, 1), 0);
        fits(x, 0, 0);
        x.carry(1, 3);
        x.days(4);
        due("ask() as it was then", x.ask(), 1);
        due("fits() of blind ones", fits(x, 0, 1), 0);
        due("fits() of blind ones", fits(x, 0, 0), 15);
        for (int k = 0; k < 12; k++) {
            x.does(0, 0, 0);
        }
        due("fits() behind twelve", fits(x, 0, 0), 15);
    }

    private static void cover() {
        ParlourLeaves x = house();
        due("covering() ahead of any", x.covering(), NONE);
        due("cover()", x.cover(), 2);
        due("covering()", x.covering(), 12);
        x.days(10);
        due("cover() is of parlours alone", x.cover(), 2);
        Check.tape(x, "parlour a;parlour b;parlour c;parlour d;parlour e;sight a b;sight b c;sight c d;sight d e;");
        x.house();
        due("covering() of the latest", x.covering(), 12);
        due("cover() of a row", x.cover(), 2);
        due("the least as bits", x.covering(), 9);
        Check.tape(x, "parlour a;parlour b;");
        x.house();
        due("cover() without sights", x.cover(), 2);
        due("covering() without sights", x.covering(), 3);
        x.house();
        due("cover() of none", x.cover(), 0);
        due("covering() of none", x.covering(), 0);
    }

    private static void round() {
        ParlourLeaves x = house();
        due("roundAt(0) ahead of any", x.roundAt(0), NONE);
        due("round(1) without dust", x.round(1), 0);
        due("roundAt(0) of none", x.roundAt(0), NONE);
        due("round(4)", x.round(4), NONE);
        due("round(-1)", x.round(-1), NONE);
        x.days(1);
        due("round(0) to the den", x.round(0), NONE);
        x.sponge(2);
        due("round(0)", x.round(0), 2);
        due("round(2)", x.round(2), 3);
        int[] steps = {0, 2, 1};
        for (int k = 0; k < 3; k++) {
            due("roundAt(" + k + ")", x.roundAt(k), steps[k]);
        }
        due("roundAt(3)", x.roundAt(3), NONE);
        due("roundAt(-1)", x.roundAt(-1), NONE);
        due("round(3)", x.round(3), NONE);
        due("roundAt(2) of the latest found", x.roundAt(2), 1);
        // A star, whose middle is the last: from a point there and back each time, from the middle so, too.
        ParlourLeaves y = house("parlour a;parlour b;parlour c;parlour d;parlour m;sight a m;sight b m;sight c m;sight d m;"
            + "plant p a 1;plant q b 1;plant r c 1;plant s d 1;");
        y.days(1);
        due("round in a star", y.round(4), 7);
        int[] star = {0, 4, 1, 4, 2, 4, 3};
        for (int k = 0; k < 7; k++) {
            due("roundAt(" + k + ") in a star", y.roundAt(k), star[k]);
        }
        due("round from a point", y.round(3), 6);
        // A ring: both ways are as long, the least step is first.
        ParlourLeaves z = house("parlour a;parlour b;parlour c;parlour d;sight a b;sight b c;sight c d;sight d a;plant p c 1;");
        z.days(1);
        due("round in a ring", z.round(0), 2);
        due("roundAt(0) in a ring", z.roundAt(0), 1);
        due("roundAt(1) in a ring", z.roundAt(1), 2);
    }

    private static void choice() {
        ParlourLeaves x = new ParlourLeaves();
        due("choice() without parlours", x.choice(), NONE);
        due("chosen(0) ahead of any", x.chosen(0), NONE);
        due("chosen(1) ahead of any", x.chosen(1), NONE);
        due("chosen(2) ahead of any", x.chosen(2), NONE);
        x = house();
        due("choice()", x.choice(), 1);
        int[] all = {0, 3, 0, NONE};
        for (int k = 0; k < 4; k++) {
            due("chosen(" + k + ")", x.chosen(k), all[k]);
        }
        due("chosen(-1)", x.chosen(-1), NONE);
        due("nothing was carried", x.plant(0, 0), 0);
        x.days(4);
        due("choice() of blind ones", x.choice(), 0);
        due("none is carried", x.chosen(0), NONE);
        due("nowhere", x.chosen(1), NONE);
        due("the least parlour", x.chosen(2), 0);
        Check.tape(x, "parlour a;parlour b;plant p a 1;plant q b 1;");
        x.house();
        due("chosen(2) of the latest", x.chosen(2), 0);
        due("choice() where it stands well", x.choice(), 1);
        due("none", x.chosen(0), NONE);
        x.carry(1, 0);
        due("choice() of two in one", x.choice(), 1);
        due("the least plant", x.chosen(0), 0);
        due("whither", x.chosen(1), 1);
        x.carry(0, 1);
        x.carry(1, 1);
        due("choice() of two in the other", x.choice(), 1);
        due("the least plant", x.chosen(0), 0);
        due("whither", x.chosen(1), 0);
        x.house();
        due("choice() without parlours", x.choice(), NONE);
        due("chosen(1) stays", x.chosen(1), 0);
    }

    private static void elder() {
        ParlourLeaves x = house();
        due("elder() of none", x.elder(), NONE);
        x.does(0, 0, 2);
        due("elder() of leaves to come", x.elder(), NONE);
        x.days(1);
        due("elder()", x.elder(), 1);
        x.days(2);
        due("elder() of like ones", x.elder(), 0);
        x.does(0, 0, 1);
        x.days(1);
        due("elder() with two", x.elder(), 1);
    }

    private static void cards() {
        ParlourLeaves x = house();
        due("byteAt(0) ahead of any", x.byteAt(0), NONE);
        CHECK.due("card of a fern", card(x, 2).equals("green is a fern"), true);
        CHECK.due("card", card(x, 0).equals("old has 0"), true);
        for (int k = 0; k < 12; k++) {
            x.does(0, 0, 1);
        }
        x.days(3);
        CHECK.due("card with leaves", card(x, 1).equals("new has 3"), true);
        x.days(20);
        CHECK.due("card of a blind one", card(x, 1).equals("new has 12 blind"), true);
        CHECK.due("card of a dusty fern", card(x, 2).equals("green is a fern"), true);
        due("card(4)", x.card(4), NONE);
        due("card(-1)", x.card(-1), NONE);
        due("byteAt(0) of the latest", x.byteAt(0), 'g');
        due("byteAt(14)", x.byteAt(14), 'n');
        due("byteAt(15)", x.byteAt(15), NONE);
        due("byteAt(-1)", x.byteAt(-1), NONE);
        x.house();
        due("byteAt(4) stays", x.byteAt(4), 'n');
        CHECK.due("a name of seven", card(house("parlour a;plant zyxabcz a 1;"), 0).equals("zyxabcz has 0"), true);
    }

    private static void drawn() {
        ParlourLeaves x = house();
        due("drawn(0, 1)", x.drawn(0, 1), NONE);
        due("drawn(61, 1)", x.drawn(61, 1), NONE);
        due("drawn(1, 1)", x.drawn(1, 1), 1);
        due("undo of it", x.undo(), 0);
        ParlourLeaves y = house();
        // The document's draws by hand: what each person does on each day.
        int[] seed = {77};
        for (int day = 0; day < 30; day++) {
            for (int person = 0; person < 2; person++) {
                int turn = draw(seed, 6);
                if (turn == 0) {
                    int d = draw(seed, 2);
                    y.does(person, d, draw(seed, 4));
                } else if (turn == 1) {
                    y.sponge(draw(seed, 4));
                } else if (turn == 2) {
                    int p = draw(seed, 4);
                    y.carry(p, draw(seed, 4));
                }
            }
            y.days(1);
        }
        due("drawn(30, 77)", x.drawn(30, 77), 30);
        for (int k = 0; k < 8; k++) {
            due("drawn: now(" + k + ")", x.now(k), y.now(k));
            for (int p = 0; p < 4; p++) {
                due("drawn: plant(" + p + ", " + k + ")", x.plant(p, k), y.plant(p, k));
            }
        }
        for (int i = 0; i < x.now(1); i++) {
            for (int k = 0; k < 7; k++) {
                due("drawn: act(" + i + ", " + k + ")", x.act(i, k), y.act(i, k));
            }
        }
        due("something was done", x.now(1) > 0, true);
        onDay(x, 397);
        due("drawn(60, 1) of three", x.drawn(60, 1), 3);
        due("drawn(60, 1) of none", x.drawn(60, 1), 0);
        due("the drawn days are undone", x.undo() >= 0, true);
        due("day", x.now(0), 397);
        // Without any sort a draw of it is not made, nor one beside it.
        ParlourLeaves z = house("person a;person b;deed d;");
        due("drawn without parlours", z.drawn(60, 3), 60);
        due("no acts", z.now(1), 0);
        ParlourLeaves w = house("parlour a;parlour b;plant p a 1;person n;");
        int[] other = {5};
        int at = 0;
        for (int day = 0; day < 40; day++) {
            int turn = draw(other, 6);
            if (turn == 1) {
                draw(other, 1);
            } else if (turn == 2) {
                draw(other, 1);
                at = draw(other, 2);
            }
            w.drawn(1, 0);
            w.undo();
        }
        w.drawn(40, 5);
        due("drawn without deeds", w.plant(0, 0), at);
    }

    private static void odds() {
        ParlourLeaves x = house();
        due("odds(2, 1, 1)", x.odds(2, 1, 1), NONE);
        due("odds(-1, 1, 1)", x.odds(-1, 1, 1), NONE);
        due("odds(0, 0, 1)", x.odds(0, 0, 1), NONE);
        due("odds(0, 31, 1)", x.odds(0, 31, 1), NONE);
        due("odds(0, 1, 1)", x.odds(0, 1, 1) >= 0, true);
        int sum = 0;
        int start = Integer.MAX_VALUE - 10;
        for (int k = 0; k < 30; k++) {
            ParlourLeaves y = house();
            y.drawn(20, start + k);
            sum += y.guilty(1, 0) + y.guilty(1, 1) > 0 ? 1 : 0;
        }
        due("odds(1, 30, ..)", x.odds(1, 30, start), sum);
        due("some and not all", sum > 0 && sum < 30, true);
        due("all stays", x.now(0), 0);
        due("acts stay", x.now(1), 0);
        due("nothing to undo", x.undo(), NONE);
        // An act done ahead of now counts, too; all days may be over.
        x.does(0, 0, 2);
        onDay(x, 400);
        due("odds of a proved one", x.odds(0, 30, 9), 30);
        due("odds of another", x.odds(1, 30, 9), 0);
    }

    private static void books() {
        ParlourLeaves x = house();
        for (int k = 0; k < 4; k++) {
            due("told(" + k + ") ahead of any", x.told(k), NONE);
        }
        Check.tape(x, "day 1;");
        due("book(2)", x.book(2), -1000);
        due("book(-1)", x.book(-1), -1000);
        due("the tape stays", x.count(6), 6);
        due("told(2) still", x.told(2), NONE);
        due("book(0)", x.book(0), NONE);
        due("told(0)", x.told(0), 0);
        due("told(1)", x.told(1), 1);
        due("told(2)", x.told(2), 1);
        due("told(3)", x.told(3), 0);
        due("told(4)", x.told(4), NONE);
        due("told(-1)", x.told(-1), NONE);
        due("judged alone", x.now(0), 0);
        due("book(0) WRONG", book(x, "ann does kiss hall;day 2;sponge old;sponge old;day 60;", 0), 3);
        int[] all = {11, 3, 2, 1};
        for (int k = 0; k < 4; k++) {
            due("told(" + k + ")", x.told(k), all[k]);
        }
        due("acts", x.now(1), 0);
        due("book with a FAULT", book(x, "day 5;?", 1), -8);
        due("told(0) of the latest", x.told(0), 11);
        due("not lived", x.now(0), 0);
        due("book(1) WRONG", book(x, "bob does lie front;carry new den;carry new den;day 1;", 1), 2);
        due("told(0)", x.told(0), 21);
        due("lived as far", x.plant(1, 0), 3);
        due("acts", x.now(1), 1);
        due("day", x.now(0), 0);
        due("empty book", book(x, "", 1), NONE);
        due("told(1) of it", x.told(1), 0);
        due("thirteen deeds", book(x, times(12, "ann does lie den;"), 1), 11);
        due("told(0)", x.told(0), 1);
        due("acts", x.now(1), 12);
        onDay(x, 360);
        due("fewer days", book(x, "day 40;day 1;", 1), 1);
        due("told(0)", x.told(0), 31);
        due("told(2)", x.told(2), 400);
        due("all days over", book(x, "day 1;", 1), 0);
        due("told(1)", x.told(1), 0);
        onDay(house(), 0);
        ParlourLeaves y = onDay(house(), 390);
        due("days that do not all go", book(y, "day 11;", 1), 0);
        due("none goes", y.now(0), 390);
        due("told(2)", y.told(2), 390);
    }

    private static void bookFaults() {
        dueBook("ann does kiss hall", -20, 1);
        dueBook("ann kiss hall;", -6, 1);
        dueBook("ann does hall;", -11, 3);
        dueBook("ann does kiss lie;", -16, 3);
        dueBook("tom does kiss hall;", -2, 3);
        dueBook("old does kiss hall;", -2, 3);
        dueBook("parlour x;", -2, 1);
        dueBook("does ann;", -2, 1);
        dueBook("sponge ann;", -9, 3);
        dueBook("sponge 1;", -9, 1);
        dueBook("sponge fern;", -9, 1);
        dueBook("carry old new;", -12, 3);
        dueBook("carry old;", -11, 1);
        dueBook("day 0;", -6, 2);
        dueBook("day 61;", -6, 2);
        dueBook("day ann;", -6, 1);
        dueBook("day 1;;", -8, 1);
        dueBook(times(40, "day 1;"), -1, 0);
        dueBook(times(40, "day 1;") + "day", -242, 4);
        dueBook(times(40, "day 1;") + "sponge old;", -242, 4);
        dueBook(times(40, "day 1;") + "carry old;", -242, 4);
        dueBook(times(40, "day 1;") + "ann does", -242, 4);
        dueBook(times(40, "day 1;") + "old does", -242, 3);
        dueBook(times(40, "day 1;") + "?", -242, 1);
        dueBook(times(40, "day 1;") + "7", -242, 1);
        dueBook("day 1;" + times(394, " "), -1, 0);
        dueBook("day 1;" + times(395, " "), -402, 1);
        dueBook("day 1;" + times(393, " ") + "day 1;", -402, 1);
        dueBook("day 1;" + times(393, " ") + "dayx;", -401, 3);
        dueBook("day 1;" + times(393, " ") + "parlour;", -401, 1);
    }

    private static void sentences() {
        dueSentence("blind", 1, 0);
        dueSentence("not(blind or fern)and in hall", 5, 0);
        dueSentence("leaves<3 or dust=0 or number>2", 3, 0);
        dueSentence("leaves = 999", 1, 0);
        dueSentence("sees hall and tells ann", 2, 0);
        dueSentence("not not not not not not not fern", 8, 0);
        dueSentence("((((((( fern )))))))", 8, 0);
        dueSentence("fern" + times(19, " or fern"), 20, 0);
        dueSentence("fern" + times(19, " and fern"), 20, 0);
        dueSentence("fern" + times(20, " and fern"), -181, 4);
        dueSentence("fernand fern", -1, 1);
        dueSentence("leaves < 999 and not ( dust = 000 )", 4, 0);
        dueSentence("", -1, 1);
        dueSentence("  ", -3, 1);
        dueSentence("blind blind", -7, 1);
        dueSentence("blind )", -7, 1);
        dueSentence("( blind", -8, 1);
        dueSentence("( )", -3, 1);
        dueSentence("blind and", -10, 1);
        dueSentence("blind ;", -7, 1);
        dueSentence("or", -1, 1);
        dueSentence("ann", -1, 1);
        dueSentence("leaves 3", -8, 1);
        dueSentence("leaves < > 3", -10, 1);
        dueSentence("leaves < ann", -10, 1);
        dueSentence("leaves < 1000", -10, 1);
        dueSentence("( leaves ) < 3", -10, 1);
        dueSentence("in ann", -4, 3);
        dueSentence("in attic", -4, 3);
        dueSentence("in in", -4, 1);
        dueSentence("sees old", -6, 3);
        dueSentence("tells hall", -7, 3);
        dueSentence("not not not not not not not not fern", -33, 4);
        dueSentence("not not not not not not not not or", -33, 1);
        dueSentence("((((((((fern", -9, 4);
        dueSentence("(((((((fern or ((fern", -17, 4);
        dueSentence("fern" + times(20, " or fern"), -161, 4);
        dueSentence("fern" + times(19, " or fern") + " or or", -161, 1);
        dueSentence("fern" + times(196, " "), 1, 0);
        dueSentence("fern" + times(197, " "), -201, 1);
        dueSentence("fern" + times(194, " ") + "and fern", -201, 1);
        dueSentence("fern" + times(194, " ") + "xandfern", -199, 1);
    }

    private static void said() {
        ParlourLeaves x = house();
        due("said(NONE) without a sentence", x.said(NONE), NONE);
        due("said(0) without a sentence", x.said(0), NONE);
        x.does(0, 0, 2);
        x.does(1, 1, 0);
        x.days(2);
        x.sponge(1);
        x.days(2);
        // Leaves that have come: old 1 (ann's), new 1 (ann's), maid 2 (ann's and bob's); only new sees.
        dueSaid(x, "blind", 0, 2, 3);
        dueSaid(x, "fern", 2);
        dueSaid(x, "in hall", 3);
        dueSaid(x, "sees hall", 1);
        dueSaid(x, "sees front");
        dueSaid(x, "tells ann", 0, 1, 3);
        dueSaid(x, "tells bob", 3);
        dueSaid(x, "leaves = 1", 0, 1);
        dueSaid(x, "leaves > 1", 3);
        dueSaid(x, "leaves < 1", 2);
        dueSaid(x, "dust < 4", 1);
        dueSaid(x, "dust = 4", 0, 2, 3);
        dueSaid(x, "number > 1", 2, 3);
        dueSaid(x, "number = 0", 0);
        dueSaid(x, "not fern", 0, 1, 3);
        dueSaid(x, "not fern and blind", 0, 3);
        dueSaid(x, "not (fern and blind)", 0, 1, 3);
        dueSaid(x, "fern or in hall and number = 0", 2);
        dueSaid(x, "(fern or in hall) and number = 3", 3);
        dueSaid(x, "number = 0 and fern or in hall", 3);
        dueSaid(x, "not not fern", 2);
        due("said(-2)", x.said(-2), NONE);
        x.carry(2, 0);
        dueSaid(x, "in front", 0, 2);
        x.carry(2, 1);
        due("said of now", x.said(NONE), 1);
        sentence(x, "in");
        due("it stays with a fault", x.said(NONE), 1);
        dueSaid(x, "in hall and tells bob and number < 9", 3);
        x.undo();
        due("it stays with undo()", x.said(0), 3);
    }

    private static void images() {
        ParlourLeaves x = house();
        due("image(-1)", x.image(-1), false);
        due("image(2)", x.image(2), false);
        due("restore(0) of nothing", x.restore(0), false);
        due("restore(-1)", x.restore(-1), false);
        due("restore(2)", x.restore(2), false);
        x.does(0, 0, 2);
        x.days(2);
        x.carry(0, 3);
        sentence(x, "in den");
        due("image(0)", x.image(0), true);
        due("restore(1) of nothing", x.restore(1), false);
        due("undo behind image()", x.undo(), 2);
        x.cover();
        card(x, 2);
        fits(x, 2, 0);
        Check.tape(x, "parlour one;person me;dusty 9;");
        x.house();
        x.days(1);
        x.image(1);
        Check.tape(x, "dusty 0;");
        x.house();
        Check.tape(x, "day 1;");
        due("restore(0)", x.restore(0), true);
        due("the tape stays", x.count(6), 6);
        due("the fault stays", x.fault(), 2);
        due("covering() stays", x.covering(), 12);
        due("byteAt(0) stays", x.byteAt(0), 'g');
        due("ask() stays", x.ask(), 0);
        due("parlours", x.count(0), 4);
        due("dusty", x.count(4), 4);
        due("day", x.now(0), 2);
        due("at", x.plant(0, 0), 3);
        due("proved", x.now(2), 1);
        due("comes", x.comes(0, 0), 3);
        due("sentence", x.said(NONE), 2);
        due("nothing is undone", x.undo(), NONE);
        due("names are as kept", book(x, "carry old front;", 1), NONE);
        due("restore(1)", x.restore(1), true);
        due("parlours", x.count(0), 1);
        due("day", x.now(0), 1);
        due("no sentence", x.said(NONE), NONE);
        due("restore(0) again", x.restore(0), true);
        due("at as kept", x.plant(0, 0), 3);
        x.days(5);
        x.image(0);
        x.days(5);
        x.restore(0);
        due("the later image", x.now(0), 7);
    }

    private static void count() {
        ParlourLeaves x = house();
        int[] all = {4, 4, 2, 2, 4, 2, 0, NONE};
        for (int k = 0; k < all.length; k++) {
            due("count(" + k + ")", x.count(k), all[k]);
        }
        due("count(-1)", x.count(-1), NONE);
        Check.tape(x, "abc");
        due("count(6)", x.count(6), 3);
    }

    public static void main(String[] args) {
        newObject();
        feed();
        end();
        houseText();
        faults();
        fault();
        plant();
        act();
        comes();
        sights();
        now();
        does();
        sponge();
        carry();
        days();
        undo();
        guilty();
        proves();
        hides();
        dark();
        fitsAndAsk();
        cover();
        round();
        choice();
        elder();
        cards();
        drawn();
        odds();
        books();
        bookFaults();
        sentences();
        said();
        images();
        count();
        CHECK.finish();
    }
}
