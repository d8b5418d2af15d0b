/** Each sentence of the document's parts 2 and 3, and of those behind them, that names an edge. */
public final class PartEdgesTest extends Play {

    /** One parlour, one plant of that slowness, and enough else to do something. */
    private static String one(int slow, int dusty, int proof) {
        return "parlour a;plant p a " + slow + ";person n;deed d;dusty " + dusty + ";proof " + proof + ";";
    }

    /** Parlours in a row or ring or star: the sights are told as pairs of letters. */
    private static String parlours(int n, String... sights) {
        StringBuilder s = new StringBuilder();
        for (int k = 0; k < n; k++) {
            s.append("parlour ").append((char) ('a' + k)).append(';');
        }
        for (String two : sights) {
            s.append("sight ").append(two.charAt(0)).append(' ').append(two.charAt(1)).append(';');
        }
        return s.toString();
    }

    /** Plants p, q, .. of slowness 1, one in each parlour told. */
    private static String plants(String stands) {
        StringBuilder s = new StringBuilder();
        for (int k = 0; k < stands.length(); k++) {
            s.append("plant ").append((char) ('p' + k)).append(' ').append(stands.charAt(k)).append(" 1;");
        }
        return s.toString();
    }

    // ---- 2.

    private static void sees() {
        says("A PLANT that is no fern and has less DUST than 'dusty' tells SEES its PARLOUR and those in SIGHT of it; else nothing.");
        for (int dusty : new int[] {1, 2, 6, 59, 60}) {
            ParlourLeaves x = onDay(house(one(1, dusty, 1)), dusty - 1);
            due("one less than dusty " + dusty, x.plant(0, 4), 1);
            x.days(1);
            due("dusty " + dusty, x.plant(0, 4), 0);
            due("nothing that sees", x.now(3), 0);
            x.sponge(0);
            due("without dust", x.plant(0, 4), 1);
        }
        ParlourLeaves fern = house("parlour a;plant p a 1 fern;person n;deed d;proof 1;");
        due("a fern without dust", fern.plant(0, 4), 0);
        fern.does(0, 0, 0);
        due("a fern's leaf", fern.comes(0, 0), NONE);
        ParlourLeaves x = house(parlours(5, "ab", "bc", "cd", "de") + plants("abcde"));
        int[] row = {3, 7, 14, 28, 24};
        for (int p = 0; p < 5; p++) {
            due("its parlour and those in sight, no further: " + p, x.plant(p, 4), row[p]);
        }
        due("without sights", house(parlours(2) + plants("b")).plant(0, 4), 2);
        due("all of five", house(FULL).plant(5, 4), 31);
    }

    private static void twelve() {
        says("To DO a DEED in a PARLOUR: why not: 1 twelve were done already: it is the next ACT (numbered from 0).");
        ParlourLeaves x = house();
        for (int k = 0; k < 12; k++) {
            due("number of acts ahead of one", x.now(1), k);
            due("does", x.does(k % 2, k / 6, k % 4), 0);
            due("it is the next: who", x.act(k, 0), k % 2);
            due("it is the next: where", x.act(k, 2), k % 4);
        }
        String before = state(x);
        due("does a thirteenth", x.does(0, 0, 0), 1);
        due("state behind it", state(x), before);
        x.undo();
        due("eleven once one is undone", x.now(1), 11);
        due("a twelfth again", x.does(0, 0, 0), 0);
        due("a thirteenth again", x.does(0, 0, 0), 1);
    }

    private static void leafDays() {
        says("it comes SLOW days behind that DAY, or behind the DAY on which its latest leaf comes, if that is later.");
        for (int slow : new int[] {1, 3, 9}) {
            for (int later = 0; later <= 2 * slow + 2; later++) {
                ParlourLeaves x = house(one(slow, 60, 1));
                doTimes(x, 2, 0);
                onDay(x, later);
                x.does(0, 0, 0);
                due("the first leaf", x.comes(0, 0), slow);
                due("the second, on one day", x.comes(0, 1), 2 * slow);
                due("a third on day " + later, x.comes(0, 2), Math.max(later, 2 * slow) + slow);
            }
        }
        ParlourLeaves x = house(one(9, 60, 1));
        doTimes(x, 12, 0);
        due("the twelfth of the slowest", x.comes(0, 11), 108);
        // What it does not see puts off nothing.
        ParlourLeaves y = house(parlours(2) + "plant p a 4;person n;deed d;dusty 60;");
        y.does(0, 0, 1);
        y.does(0, 0, 0);
        due("unseen", y.comes(0, 0), NONE);
        due("not behind what was unseen", y.comes(0, 1), 4);
    }

    private static void spongeAndCarry() {
        says("To SPONGE a PLANT: 1 it has no DUST: it has none. To CARRY it to a PARLOUR: 1 it is there.");
        ParlourLeaves x = house();
        due("no dust on day 0", x.sponge(0), 1);
        x.days(1);
        due("dust of one", x.sponge(0), 0);
        due("it has none", x.plant(0, 3), 0);
        due("no dust again", x.sponge(0), 1);
        onDay(x, 120);
        due("dust of 99", x.sponge(0), 0);
        due("it has none", x.plant(0, 3), 0);
        for (int p = 0; p < 4; p++) {
            for (int l = 0; l < 4; l++) {
                int was = x.plant(p, 0);
                due("carry from " + was + " to " + l, x.carry(p, l), was == l ? 1 : 0);
                due("it is there", x.plant(p, 0), l);
            }
        }
    }

    private static void come() {
        says("A leaf has COME, if its DAY is not later than now.");
        for (int slow : new int[] {1, 9}) {
            ParlourLeaves x = house(one(slow, 60, 1));
            x.does(0, 0, 0);
            onDay(x, slow - 1);
            due("come a day ahead", x.plant(0, 5), 0);
            due("will come", x.plant(0, 7), 1);
            due("shown", x.plant(0, 6), 0);
            due("act: come", x.act(0, 4), 0);
            due("act: will come", x.act(0, 5), 1);
            due("now: come", x.now(5), 0);
            due("now: will come", x.now(6), 1);
            x.days(1);
            due("come on the day", x.plant(0, 5), 1);
            due("will come no more", x.plant(0, 7), 0);
            due("shown", x.plant(0, 6), 1);
            due("act: come", x.act(0, 4), 1);
            due("act: will come no more", x.act(0, 5), 0);
            due("now: come", x.now(5), 1);
            due("now: will come no more", x.now(6), 0);
        }
    }

    private static void proved() {
        says("An ACT is PROVED, if leaves of as many PLANTS as 'proof' tells, at least, have COME for it.");
        for (int proof = 1; proof <= 6; proof++) {
            ParlourLeaves x = house("parlour a;plant p a 1;plant q a 2;plant r a 3;plant s a 4;plant t a 5;plant u a 6;"
                + "person n;deed d;dusty 60;proof " + proof + ";");
            x.does(0, 0, 0);
            for (int day = 0; day <= 7; day++) {
                due("proof " + proof + " on day " + day, x.act(0, 6), day >= proof ? 1 : 0);
                due("its bit", x.now(2), day >= proof ? 1 : 0);
                due("guilty", x.guilty(0, 0), day >= proof ? 1 : 0);
                x.days(1);
            }
            due("proves", x.proves(0), proof);
        }
        // Two leaves of one plant are of one plant; a fern is none.
        ParlourLeaves x = onDay(house(one(1, 60, 2)), 1);
        doTimes(x, 2, 0);
        onDay(x, 9);
        due("two leaves of one plant", x.now(2), 0);
        ParlourLeaves y = house("parlour a;plant p a 1;plant q a 1 fern;person n;deed d;");
        y.does(0, 0, 0);
        y.days(5);
        due("a plant and a fern", y.now(2), 0);
        due("nothing done is proved without plants", house("proof 1;").now(2), 0);
    }

    private static void lastDay() {
        says("A DAY (0 to 399; 400: all are over) goes: each PLANT has 1 more DUST (99 at most). It is the next DAY.");
        ParlourLeaves x = house();
        due("the first day", x.now(0), 0);
        x.days(1);
        due("one more dust, a fern's too", x.plant(2, 3), 1);
        onDay(x, 98);
        due("98", x.plant(0, 3), 98);
        x.days(1);
        due("99", x.plant(0, 3), 99);
        x.days(1);
        due("99 still", x.plant(0, 3), 99);
        x.sponge(0);
        x.days(60);
        x.days(39);
        due("99 again", x.plant(0, 3), 99);
        x.sponge(0);
        x.days(60);
        x.days(60);
        due("99 past it in one go", x.plant(0, 3), 99);
        onDay(x, 399);
        due("the last that goes", x.days(1), 1);
        due("all are over", x.now(0), 400);
        x.sponge(0);
        due("none goes", x.days(1), 0);
        due("no dust comes", x.plant(0, 3), 0);
        due("nor another day", x.now(0), 400);
    }

    // ---- 3.

    private static void provesEdges() {
        says("PROVES: the DAY from which on an ACT is PROVED.");
        for (int slow : new int[] {1, 9}) {
            ParlourLeaves x = onDay(house(one(slow, 60, 1)), 390 - slow);
            x.sponge(0);
            onDay(x, 400 - slow);
            x.does(0, 0, 0);
            due("on the last day", x.proves(0), 400);
            x.does(0, 0, 0);
            due("behind it", x.proves(1), NONE);
            onDay(x, 400);
            due("proved on it", x.now(2), 1);
            due("a leaf that will come", x.now(6), 1);
        }
        ParlourLeaves x = onDay(house(one(1, 60, 1)), 350);
        x.sponge(0);
        onDay(x, 400);
        due("a deed on the last day", x.does(0, 0, 0), 0);
        due("is not proved by it", x.proves(0), NONE);
        ParlourLeaves y = house();
        y.does(0, 0, 2);
        for (int day = 0; day < 5; day++) {
            due("the same ahead of it and behind, on day " + day, y.proves(0), 2);
            y.days(1);
        }
    }

    private static void hides() {
        says("so that no leaf for it has COME k DAYS from now on.");
        for (int slow = 1; slow <= 9; slow++) {
            ParlourLeaves x = onDay(house(one(slow, 60, 1)), 10);
            due("a day short of " + slow, x.hides(slow - 1), 1);
            due("just " + slow, x.hides(slow), 0);
            due("a day more than " + slow, x.hides(slow + 1), 0);
        }
        ParlourLeaves x = house(one(5, 60, 1));
        doTimes(x, 11, 0);
        due("a leaf on day 60, in 59 days", x.hides(59), 1);
        due("a leaf on day 60, in 60 days", x.hides(60), 0);
        says("PARLOURS in which a DEED could be done now (twelve done already no matter)");
        x.does(0, 0, 0);
        due("a leaf on day 65, in 60 days", x.hides(60), 1);
        x.days(4);
        due("in 60 days from day 4", x.hides(60), 1);
        x.days(1);
        due("in 60 days from day 5", x.hides(60), 0);
        due("and nothing was done by it", x.now(1), 12);
        due("without plants", house(parlours(3)).hides(60), 7);
        due("without parlours", house("").hides(60), 0);
        due("a fern alone", house("parlour a;plant p a 1 fern;").hides(60), 1);
    }

    private static void dark() {
        says("DARK of a PARLOUR: how many DAYS go till no PLANT SEES it.");
        for (int dusty : new int[] {1, 6, 60}) {
            ParlourLeaves x = house(one(1, dusty, 1));
            for (int day = 0; day <= dusty + 1; day++) {
                due("dusty " + dusty + " on day " + day, x.dark(0), Math.max(0, dusty - day));
                x.days(1);
            }
        }
        ParlourLeaves x = house(parlours(2, "ab") + plants("ab") + "dusty 5;");
        x.days(2);
        x.sponge(1);
        due("the later of two", x.dark(0), 5);
        x.carry(1, 0);
        due("seen from another", x.dark(1), 5);
        due("none sees it", house(parlours(2) + plants("a")).dark(1), 0);
        due("a fern alone", house("parlour a;plant p a 1 fern;").dark(0), 0);
    }

    private static void fits() {
        says("FITS by the tape (pairs of bytes: a PLANT, 1 it will put up a leaf, 0 it will not; 1 to 6 of them)");
        ParlourLeaves x = house();
        due("none", fits(x), NONE);
        due("a byte", fits(x, 0), NONE);
        due("one", fits(x, 0, 1), 5);
        due("one and a byte", fits(x, 0, 1, 1), NONE);
        due("six", fits(x, 0, 1, 0, 1, 0, 1, 0, 1, 0, 1, 1, 0), 1);
        due("six and a byte", fits(x, 0, 1, 0, 1, 0, 1, 0, 1, 0, 1, 1, 0, 0), NONE);
        due("seven", fits(x, 0, 1, 0, 1, 0, 1, 0, 1, 0, 1, 1, 0, 0, 1), NONE);
        due("a full tape", fits(x, new int[940]), NONE);
        due("the last plant", fits(x, 3, 1), 7);
        due("one more than the last", fits(x, 4, 1), NONE);
        due("the highest byte", fits(x, 255, 1), NONE);
        due("neither 0 nor 1", fits(x, 0, 2), NONE);
        due("neither, the highest byte", fits(x, 0, 255), NONE);
        due("the last of six is wrong", fits(x, 0, 1, 0, 1, 0, 1, 0, 1, 0, 1, 4, 0), NONE);
        due("the last of six is neither", fits(x, 0, 1, 0, 1, 0, 1, 0, 1, 0, 1, 1, 2), NONE);
        due("wrong behind what fits nowhere", fits(x, 0, 1, 0, 0, 4, 1), NONE);
        due("a fern will not", fits(x, 2, 0), 15);
        due("a fern will", fits(x, 2, 1), 0);
        due("both", fits(x, 0, 1, 0, 0), 0);
        due("without plants", fits(house("parlour a;"), 0, 0), NONE);
        says("PARLOURS in which something was done now (before PLANTS as they are now) so that those told did just so.");
        onDay(x, 3);
        due("a day ahead of dust", fits(x, 0, 1), 5);
        x.days(1);
        due("with dust", fits(x, 0, 1), 0);
        due("with dust it will not", fits(x, 0, 0), 15);
    }

    private static void ask() {
        says("ASK: the PLANT that SEES as many of these as not, as nearly as may be (of like ones the first).");
        // Four parlours in a row; from a: two, from b: three, from c: three, from d: two.
        String row = parlours(4, "ab", "bc", "cd");
        ParlourLeaves x = house(row + "plant f a 1 fern;" + plants("bcd"));
        due("all four", fits(x, 0, 0), 15);
        due("two and two are nearest", x.ask(), 3);
        ParlourLeaves y = house(row + plants("bcda"));
        due("all that b sees", fits(y, 0, 1), 7);
        due("two of three and one of three are like, none is ahead", y.ask(), 1);
        due("all that a sees", fits(y, 3, 1), 3);
        due("one of two", y.ask(), 1);
        ParlourLeaves z = house("parlour a;plant f a 1 fern;plant p a 1;");
        due("one parlour", fits(z, 1, 1), 1);
        due("all of one and none of one are like", z.ask(), 0);
        ParlourLeaves full = house(FULL);
        due("all of five", fits(full, 5, 1), 31);
        due("six that see all of five are like", full.ask(), 0);
        ParlourLeaves last = house(parlours(5, "ab") + plants("ccccca"));
        due("all but c", fits(last, 4, 0), 27);
        due("the last of six sees two of four", last.ask(), 5);
    }

    private static void cover() {
        says("all PARLOURS would be seen; of like ones the least as bits.");
        int[][] due = {{0, 0}, {1, 1}, {2, 3}, {3, 7}, {4, 15}, {5, 31}};
        for (int n = 0; n <= 5; n++) {
            ParlourLeaves x = house(parlours(n));
            due("cover() of " + n + " apart", x.cover(), due[n][0]);
            due("covering() of them", x.covering(), due[n][1]);
        }
        ParlourLeaves x = house(FULL);
        due("all in sight of all", x.cover(), 1);
        due("the least", x.covering(), 1);
        due("a ring of four", house(parlours(4, "ab", "bc", "cd", "da")).cover(), 2);
        ParlourLeaves ring = house(parlours(5, "ab", "bc", "cd", "de", "ea"));
        due("a ring of five", ring.cover(), 2);
        due("a and c see all: the least", ring.covering(), 5);
        ParlourLeaves star = house(parlours(5, "ae", "be", "ce", "de"));
        due("a star", star.cover(), 1);
        due("its middle", star.covering(), 16);
        ParlourLeaves two = house(parlours(4, "ab", "cd"));
        due("two and two", two.cover(), 2);
        due("the least of each", two.covering(), 5);
    }

    private static void dueRound(ParlourLeaves x, int from, int... steps) {
        due("round(" + from + ")", x.round(from), steps.length);
        for (int k = 0; k < steps.length; k++) {
            due("roundAt(" + k + ") from " + from, x.roundAt(k), steps[k]);
        }
        due("roundAt behind the last from " + from, x.roundAt(steps.length), NONE);
    }

    private static void round() {
        says("the fewest steps so that one was in each PARLOUR in which a PLANT has DUST;"
            + " the first of these ways: step by step the least PARLOUR.");
        dueRound(house(parlours(1)), 0);
        ParlourLeaves x = house(parlours(5, "ab", "bc", "cd", "de") + plants("ae"));
        dueRound(x, 2);
        x.days(1);
        dueRound(x, 0, 1, 2, 3, 4);
        dueRound(x, 2, 1, 0, 1, 2, 3, 4);
        x.sponge(0);
        dueRound(x, 4);
        dueRound(x, 3, 4);
        x.sponge(1);
        dueRound(x, 0);
        // All five from the middle of a star, and the points alone.
        ParlourLeaves star = house(parlours(5, "ae", "be", "ce", "de") + plants("abcd"));
        star.days(1);
        dueRound(star, 4, 0, 4, 1, 4, 2, 4, 3);
        dueRound(star, 1, 4, 0, 4, 2, 4, 3);
        // Like ways: the least parlour first, at each step.
        ParlourLeaves ring = house(parlours(5, "ab", "bc", "cd", "de", "ea") + plants("abcde"));
        ring.days(1);
        dueRound(ring, 0, 1, 2, 3, 4);
        dueRound(ring, 2, 1, 0, 4, 3);
        ParlourLeaves full = house(FULL);
        full.days(1);
        dueRound(full, 4, 0, 1, 2, 3);
        dueRound(full, 2, 0, 1, 3, 4);
        // Two ways on to one parlour: the lesser one between.
        ParlourLeaves between = house(parlours(4, "ac", "ab", "cd", "bd") + plants("d"));
        between.days(1);
        dueRound(between, 0, 1, 3);
        // A fern has dust, too.
        ParlourLeaves fern = house(parlours(2, "ab") + "plant f b 1 fern;");
        fern.days(1);
        dueRound(fern, 0, 1);
    }

    private static void dueChoice(String what, ParlourLeaves x, int seeing, int plant, int whither, int family) {
        due("choice() " + what, x.choice(), seeing);
        due("the maid's plant " + what, x.chosen(0), plant);
        due("whither " + what, x.chosen(1), whither);
        due("the family's parlour " + what, x.chosen(2), family);
    }

    private static void choice() {
        says("of like ones of the maid's: none, then the least PLANT, then the least PARLOUR; of the family's: the least.");
        dueChoice("without plants", house(parlours(3)), 0, NONE, NONE, 0);
        dueChoice("of one parlour", house(parlours(1) + plants("aa")), 2, NONE, NONE, 0);
        dueChoice("where one plant sees one of two", house(parlours(2) + plants("a")), 0, NONE, NONE, 1);
        dueChoice("where it stands in the other", house(parlours(2) + plants("b")), 0, NONE, NONE, 0);
        dueChoice("where each has one", house(parlours(2) + plants("ba")), 1, NONE, NONE, 0);
        dueChoice("where both stand in the first", house(parlours(2) + plants("aa")), 1, 0, 1, 0);
        dueChoice("where both stand in the last", house(parlours(2) + plants("bb")), 1, 0, 0, 0);
        dueChoice("where a fern is first", house(parlours(2) + "plant f a 1 fern;" + plants("aa")), 1, 1, 1, 0);
        dueChoice("where all see all", house(FULL), 6, NONE, NONE, 0);
        // From the end of a row of three one plant is carried to the middle, whence it sees all.
        dueChoice("in a row", house(parlours(3, "ab", "bc") + plants("a")), 1, 0, 1, 0);
        // Either parlour of the second two would do.
        dueChoice("of two and two", house(parlours(4, "ab", "cd") + plants("ab")), 1, 0, 2, 0);
        ParlourLeaves x = onDay(house(parlours(2) + plants("aa") + "dusty 1;"), 1);
        dueChoice("of blind ones", x, 0, NONE, NONE, 0);
        x.sponge(0);
        dueChoice("of one that is not", x, 0, NONE, NONE, 1);
    }

    private static void cards() {
        says("CARD of a PLANT: its NAME, then, if it is a fern, ' is a fern', else ' has ' and leaves that have COME as digits,"
            + " ' blind' behind it, if it SEES nothing.");
        ParlourLeaves x = house("parlour a;plant zyxwvut a 1;plant abcdefg a 1 fern;person n;deed d;dusty 12;");
        doTimes(x, 12, 0);
        for (int day = 0; day <= 12; day++) {
            due("on day " + day, card(x, 0), "zyxwvut has " + day + (day < 12 ? "" : " blind"));
            due("a fern's on day " + day, card(x, 1), "abcdefg is a fern");
            x.days(1);
        }
        x.sponge(0);
        due("sponged", card(x, 0), "zyxwvut has 12");
    }

    private static void drawn() {
        says("for each draw of n x becomes x * 1103515245 + 12345 (an int, wrapping), the draw is (x >>> 8) % n");
        for (int seed : new int[] {0, 1, -1, MAX, MIN, 77, 1103515245, -1103515245, 0x7fffff00, 0x80000100}) {
            ParlourLeaves x = house();
            ParlourLeaves y = house();
            due("drawn(20, " + seed + ")", x.drawn(20, seed), 20);
            daysByHand(y, 20, seed);
            due("by hand of seed " + seed, state(x), state(y));
        }
        says("(each draw of two is made, if there are some of both, else none; each thing done, if it can be)");
        String[] houses = {"", "person n;", "person n;person m;deed d;", "parlour a;person n;person m;",
            "parlour a;parlour b;plant p a 1;person n;person m;", "parlour a;parlour b;parlour c;person n;person m;deed d;deed e;",
            "parlour a;plant p a 2;person n;deed d;", "parlour a;plant p a 2;deed d;", FULL};
        for (String text : houses) {
            for (int seed : new int[] {3, 4, 5}) {
                ParlourLeaves x = house(text);
                ParlourLeaves y = house(text);
                due("drawn(15, " + seed + ") of " + text, x.drawn(15, seed), 15);
                daysByHand(y, 15, seed);
                due("by hand of seed " + seed + " in " + text, state(x), state(y));
            }
        }
        // Behind twelve deeds the draws go on, and nothing is done by them.
        ParlourLeaves x = house("parlour a;person n;deed d;");
        doTimes(x, 12, 0);
        due("drawn behind twelve", x.drawn(60, 9), 60);
        due("still twelve", x.now(1), 12);
    }

    private static void newHouse() {
        says("A new HOUSE: DAY 0, nothing done, no DUST, no SENTENCE.");
        ParlourLeaves x = house();
        x.days(3);
        x.does(0, 0, 2);
        x.carry(0, 3);
        sentence(x, "blind");
        house(x, HOUSE);
        due("all as of one just made", state(x), state(house()));
        due("the day", x.now(0), 0);
        due("the acts", x.now(1), 0);
        due("the dust", x.now(4), 0);
        due("the leaves", x.now(5) + x.now(6), 0);
        due("no sentence", x.said(NONE), NONE);
        due("nothing to undo", x.undo(), NONE);
        x.does(0, 0, 2);
        due("a leaf behind none", x.comes(0, 0), 3);
    }

    private static void throwing() {
        says("A call that throws changes nothing.");
        ParlourLeaves x = house();
        x.does(0, 0, 2);
        x.days(2);
        sentence(x, "blind");
        card(x, 2);
        Check.tape(x, "day 1;");
        String before = state(x) + latest(x);
        for (int no : new int[] {MIN, -2, -1, 4, 5, 6, 7, 12, MAX}) {
            CHECK.dueThrow("plant(" + no + ", 0)", () -> x.plant(no, 0));
            CHECK.dueThrow("act(" + (no == 4 ? 1 : no) + ", 0)", () -> x.act(no == 4 ? 1 : no, 0));
        }
        for (int no : new int[] {MIN, -2, -1, 8, 9, MAX}) {
            CHECK.dueThrow("plant(0, " + no + ")", () -> x.plant(0, no));
            CHECK.dueThrow("act(0, " + no + ")", () -> x.act(0, no));
        }
        due("state", state(x) + latest(x), before);
        due("what is undone", x.undo(), 1);
    }

    public static void main(String[] args) {
        sees();
        twelve();
        leafDays();
        spongeAndCarry();
        come();
        proved();
        lastDay();
        provesEdges();
        hides();
        dark();
        fits();
        ask();
        cover();
        round();
        choice();
        cards();
        drawn();
        newHouse();
        throwing();
        CHECK.finish();
    }
}
