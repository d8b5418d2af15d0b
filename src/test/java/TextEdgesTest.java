/** Each sentence of the document's Terms that names an edge of a text: TOKENS, HOUSE, BOOK, SENTENCE, FAULTS. */
public final class TextEdgesTest extends Play {
    private static final String[] SORTS = {"parlour", "plant", "person", "deed"};
    private static final int[] MOST = {5, 6, 4, 5};

    /** A line that tells a name of a sort; a plant stands in z. */
    private static String line(String sort, String name) {
        return sort + " " + name + (sort.equals("plant") ? " z 1;" : ";");
    }

    private static String pad(String text, int length) {
        return text + blanks(length - text.length());
    }

    /** Bytes that stand next to those that are TOKENS or blanks, or are none at all. */
    private static final int[] NO_TOKENS = {0, 1, 9, 11, 12, 13, 31, 33, 39, 42, 47, 58, 63, 64, 'A', 'Z', 91, 95, 96, 123, 127,
        128, 160, 225, 255};

    // ---- TOKENS

    private static void words() {
        says("WORDS: small letters, 1 to 7");
        dueHouse("deed a;", 1, 0);
        dueHouse("deed z;", 1, 0);
        dueHouse("deed abcwxyz;", 1, 0);
        dueHouse("deed abcdwxyz;", -6, 1);
        dueHouse("deed " + times(890, "a") + ";", -6, 1);
        dueHouse("abcdefparlour a;", -1, 1);
        dueHouse(times(26, "z") + "dusty 9;", -1, 1);
        due("a name of seven", card(house("parlour a;plant zabcdez a 1;"), 0), "zabcdez has 0");
        due("a name of one", card(house("parlour a;plant z a 1;"), 0), "z has 0");
        // Names that are alike but for one letter, or one is the other's beginning or end.
        dueHouse("deed a;deed aa;deed b;deed ba;deed ab;", 5, 0);
        dueHouse("deed abcdefg;deed abcdefh;deed bbcdefg;deed abcdef;deed bcdefg;", 5, 0);
    }

    private static void numbers() {
        says("NUMBERS: 1 to 3 digits");
        dueHouse("dusty 9;", 1, 0);
        dueHouse("dusty 09;", 1, 0);
        dueHouse("dusty 009;", 1, 0);
        due("dusty 009", house("dusty 009;").count(4), 9);
        dueHouse("dusty 0009;", -7, 1);
        dueHouse("dusty 1000;", -7, 1);
        // As ints these would be 1.
        dueHouse("dusty 4294967297;", -7, 1);
        dueHouse("dusty 00000000000000000001;", -7, 1);
        dueSentence("leaves > 0", 1, 0);
        dueSentence("leaves > 999", 1, 0);
        dueSentence("leaves > 1000", -10, 1);
        dueBook("day 060;", -1, 0);
        dueBook("day 0060;", -6, 1);
    }

    private static void blanksBetween() {
        says("with blanks (32, 10) between them or not");
        dueHouse("\n deed \n\n a  ;\n\n", 1, 0);
        dueHouse("deed a;dusty 9;proof 1;", 3, 0);
        dueHouse("deed\na\n;", 1, 0);
        dueHouse("deeda;", -1, 1);
        dueHouse("dusty9;", -1, 1);
        dueSentence("not(blind)and leaves<3", 4, 0);
        dueSentence(" not\n( blind ) and\nleaves < 3 \n", 4, 0);
        dueBook("\nday\n1\n;\nday 1;day 1 ; ", -1, 0);
        for (int b : NO_TOKENS) {
            dueHouse("deed" + (char) b + "a;", -5, 1);
            dueHouse("deed a;" + (char) b, -8, 1);
            dueBook("day 1;" + (char) b, -8, 1);
            dueSentence("fern" + (char) b, -5, 1);
        }
    }

    private static void wordsGoOn() {
        says("A WORD, NUMBER goes on as long as small letters and digits do; what is not as told is no TOKEN.");
        dueHouse("deed a1;", -6, 1);
        dueHouse("deed 1a;", -6, 1);
        dueHouse("deed a1b;", -6, 1);
        dueHouse("dusty 9a;", -7, 1);
        dueHouse("dusty 9;1a", -9, 1);
        dueHouse("parlour a;plant p a 9fern;", -21, 1);
        dueSentence("leaves<3and fern", -8, 1);
        dueSentence("leaves3<3", -1, 1);
        dueBook("day1;", -2, 1);
        // A byte that is neither ends it.
        for (int b : NO_TOKENS) {
            dueHouse("deed a" + (char) b + ";", -7, 1);
            dueHouse("dusty 9" + (char) b + ";", -8, 1);
        }
    }

    private static void signs() {
        says("; < = > ( )");
        for (String sign : "< = >".split(" ")) {
            dueSentence("leaves" + sign + "1", 1, 0);
        }
        dueSentence("(fern)", 2, 0);
        for (int b = 0; b < 256; b++) {
            boolean digit = b >= '0' && b <= '9';
            boolean letter = b >= 'a' && b <= 'z';
            boolean blank = b == ' ' || b == '\n';
            if (!letter && !blank && b != '(') {
                dueSentence((char) b + " fern", -1, 1);
            }
            if (!letter && !digit && !blank && b != '<' && b != '=' && b != '>') {
                dueSentence("leaves" + (char) b + "1", -7, 1);
            }
        }
    }

    // ---- HOUSE

    private static void mostOfHouse() {
        says("A HOUSE is a text of at most 900 bytes: { LINE ; }.");
        dueHouse("", 0, 0);
        dueHouse(blanks(892) + "dusty 9;", 1, 0);
        dueHouse(blanks(893) + "dusty 9;", -901, 1);
        dueHouse(pad("dusty 9;", 900), 1, 0);
        dueHouse(pad("dusty 9;", 901), -901, 1);
        dueHouse(pad("dusty 9;", 940), -901, 1);
        dueHouse(blanks(900), 0, 0);
        dueHouse(blanks(901), -901, 1);
        dueHouse(";", -1, 1);
        dueHouse("dusty 9", -8, 1);
        dueHouse("dusty 9;;", -9, 1);
    }

    private static void sightLines() {
        says("'sight' PARLOUR PARLOUR (unlike; each two once, in whatever order; both ways)");
        String two = "parlour a;parlour b;";
        dueHouse(two + "sight a a;", -29, 3);
        dueHouse(two + "sight b b;", -29, 3);
        dueHouse(two + "sight a b;sight a b;", -39, 3);
        dueHouse(two + "sight a b;sight b a;", -39, 3);
        dueHouse(two + "sight b a;sight a b;", -39, 3);
        for (String order : new String[] {"sight a b;", "sight b a;"}) {
            ParlourLeaves x = house(two + order);
            due("sights(0) by " + order, x.sights(0), 2);
            due("sights(1) by " + order, x.sights(1), 1);
        }
        // All ten of five parlours, and one more of each.
        ParlourLeaves full = house(FULL);
        for (int l = 0; l < 5; l++) {
            due("sights(" + l + ") of all", full.sights(l), 31 - (1 << l));
            for (int m = 0; m < 5; m++) {
                dueHouse(FULL + "sight " + (char) ('a' + l) + " " + (char) ('a' + m) + ";", -1 - FULL.length() - 8, 3);
            }
        }
    }

    private static void plantLines() {
        says("'plant' NAME PARLOUR SLOW [ 'fern' ] (1 to 9)");
        String plant = "parlour a;plant p a ";
        for (int slow = 1; slow <= 9; slow++) {
            due("SLOW " + slow, house(plant + slow + ";").plant(0, 1), slow);
            due("SLOW 00" + slow, house(plant + "00" + slow + " fern;").plant(0, 1), slow);
        }
        for (String slow : "0 00 000 10 11 99 100 999".split(" ")) {
            dueHouse(plant + slow + ";", -21, 2);
        }
        dueHouse(plant + "1000;", -21, 1);
        due("no fern", house(plant + "1;").plant(0, 2), 0);
        ParlourLeaves x = house(plant + "1 fern;");
        due("a fern", x.plant(0, 2), 1);
        house(x, plant + "1;");
        due("no fern where one was", x.plant(0, 2), 0);
        dueHouse(plant + "fern 1;", -21, 1);
        dueHouse(plant + "1 fern fern;", -28, 1);
        dueHouse(plant + ";", -21, 1);
    }

    private static void dustyLines() {
        says("'dusty' N (1 to 60; once; 6 without)");
        due("without", house("").count(4), 6);
        due("without, in a house", house("parlour a;").count(4), 6);
        due("the least", house("dusty 1;").count(4), 1);
        due("the most", house("dusty 60;").count(4), 60);
        dueHouse("dusty 0;", -7, 2);
        dueHouse("dusty 61;", -7, 2);
        dueHouse("dusty 999;", -7, 2);
        dueHouse("dusty 6;dusty 6;", -9, 3);
        dueHouse("dusty 6;proof 1;dusty 0;", -17, 3);
        ParlourLeaves x = house("dusty 9;");
        due("told again in another house", house(x, "dusty 8;"), 1);
        due("its own", x.count(4), 8);
        house(x, "");
        due("without behind another", x.count(4), 6);
    }

    private static void proofLines() {
        says("'proof' N (1 to 6; once; 2 without)");
        due("without", house("").count(5), 2);
        due("without, in a house", house("parlour a;").count(5), 2);
        for (int proof = 1; proof <= 6; proof++) {
            due("proof " + proof, house("proof " + proof + ";").count(5), proof);
        }
        dueHouse("proof 0;", -7, 2);
        dueHouse("proof 7;", -7, 2);
        dueHouse("proof 999;", -7, 2);
        dueHouse("proof 2;proof 2;", -9, 3);
        dueHouse("proof 2;dusty 1;proof", -17, 3);
        ParlourLeaves x = house("proof 5;");
        due("told again in another house", house(x, "proof 4;"), 1);
        due("its own", x.count(5), 4);
        house(x, "");
        due("without behind another", x.count(5), 2);
    }

    private static void names() {
        says("NAME: a WORD, none of those told here, in a BOOK or a SENTENCE; told once.");
        for (String key : KEYS) {
            for (String sort : SORTS) {
                String before = "parlour z;" + sort + " ";
                dueHouse(before + key + " z 1;", -1 - before.length(), 1);
            }
            dueHouse("deed " + key.substring(1) + "q;", 1, 0);
        }
        for (String first : SORTS) {
            for (String second : SORTS) {
                String before = "parlour z;" + line(first, "x");
                dueHouse(before + line(second, "x"), -1 - before.length() - second.length() - 1, 3);
                dueHouse(before + line(second, "y"), 3, 0);
            }
        }
        // Told once in a text: another house tells it anew.
        ParlourLeaves x = house(HOUSE);
        due("the same names in another house", house(x, HOUSE), 16);
        due("and behind a fault", house(x, HOUSE + "?"), -1 - HOUSE.length());
        due("the same names again", house(x, HOUSE), 16);
    }

    private static void mostOfSorts() {
        says("5 PARLOURS, 6 PLANTS, 4 PERSONS, 5 DEEDS at most, numbered from 0 each.");
        for (int sort = 0; sort < 4; sort++) {
            StringBuilder text = new StringBuilder(sort == 0 ? "" : "parlour z;");
            for (int k = 0; k < MOST[sort]; k++) {
                text.append(line(SORTS[sort], "n" + (char) ('a' + k)));
            }
            dueHouse(text.toString(), MOST[sort] + (sort == 0 ? 0 : 1), 0);
            due("count(" + sort + ")", house(text.toString()).count(sort), MOST[sort]);
            dueHouse(text + line(SORTS[sort], "more"), -1 - text.length(), 4);
            dueHouse(text + " " + SORTS[sort], -1 - text.length() - 1, 4);
            dueHouse(text + SORTS[sort] + " na;", -1 - text.length(), 4);
            dueHouse(FULL + SORTS[sort] + " z", -1 - FULL.length(), 4);
        }
        ParlourLeaves x = new ParlourLeaves();
        due("house() of all", house(x, FULL), FULL_LINES);
        for (int sort = 0; sort < 4; sort++) {
            due("count(" + sort + ") of all", x.count(sort), MOST[sort]);
        }
        book(x, "v does k a;w does l b;x does m c;y does n d;y does o e;", 1);
        for (int i = 0; i < 5; i++) {
            due("number of the person", x.act(i, 0), Math.min(i, 3));
            due("number of the deed", x.act(i, 1), i);
            due("number of the parlour", x.act(i, 2), i);
        }
        for (int p = 0; p < 6; p++) {
            due("number of the plant", card(x, p), (char) ('p' + p) + " has 0");
            due("its parlour", x.plant(p, 0), p % 5);
        }
    }

    // ---- BOOK

    private static void mostOfBook() {
        says("A BOOK is a text of at most 400 bytes: { LINE ; }, 40 at most");
        dueBook("", NONE, 0);
        dueBook(blanks(394) + "day 9;", NONE, 0);
        dueBook(blanks(395) + "day 9;", -402, 1);
        dueBook(pad("day 9;", 400), NONE, 0);
        dueBook(pad("day 9;", 401), -402, 1);
        dueBook(pad("day 9;", 940), -402, 1);
        dueBook(blanks(400), NONE, 0);
        dueBook(blanks(401), -402, 1);
        dueBook(";", -2, 1);
        dueBook("day 9", -7, 1);
        dueBook("day 9;;", -8, 1);
        String forty = times(40, "day 1;");
        dueBook(forty, NONE, 0);
        dueBook(pad(forty, 400), NONE, 0);
        for (String more : new String[] {"day 1;", "sponge old;", "carry old den;", "ann does lie den;", "day", "sponge", "carry", "bob"}) {
            dueBook(forty + more, -242, 4);
            dueBook(forty + "\n " + more, -244, 4);
            dueBook(times(39, "day 1;") + "day 1 " + more, -242, 1);
        }
        dueBook(times(10, "ann does lie den;day 1;day 2;day 3;"), NONE, 0);
        ParlourLeaves x = house();
        book(x, forty, 1);
        due("forty lines are lived", x.now(0), 40);
        due("told(1) of forty", x.told(1), 40);
    }

    private static void bookDays() {
        says("'day' N (1 to 60).");
        dueBook("day 0;", -6, 2);
        dueBook("day 000;", -6, 2);
        dueBook("day 1;", NONE, 0);
        dueBook("day 60;", NONE, 0);
        dueBook("day 61;", -6, 2);
        dueBook("day 999;", -6, 2);
        for (int n : new int[] {1, 60}) {
            ParlourLeaves x = house();
            book(x, "day " + n + ";", 1);
            due("the days of it", x.now(0), n);
        }
    }

    // ---- SENTENCE

    private static void mostOfSentence() {
        says("A SENTENCE is a text of at most 200 bytes");
        dueSentence("", -1, 1);
        dueSentence(blanks(200), -201, 1);
        dueSentence(blanks(201), -201, 1);
        dueSentence(blanks(199), -200, 1);
        dueSentence(pad("fern", 200), 1, 0);
        dueSentence(pad("fern", 201), -201, 1);
        dueSentence(pad("fern", 940), -201, 1);
        dueSentence(blanks(196) + "fern", 1, 0);
        dueSentence(blanks(197) + "fern", -201, 1);
        dueSentence(blanks(192) + "leaves<9", 1, 0);
        dueSentence(blanks(193) + "leaves<9", -201, 1);
    }

    private static void mostOnes() {
        says("20 ONES, 8 within one another.");
        dueSentence("fern" + times(19, " or fern"), 20, 0);
        dueSentence("fern" + times(19, " or fern") + " or fern", -161, 4);
        dueSentence("not fern" + times(9, " or not fern"), 20, 0);
        dueSentence("not fern" + times(9, " or not fern") + " or not fern", -121, 4);
        dueSentence("(fern)" + times(9, "or(fern)"), 20, 0);
        dueSentence("(fern)" + times(9, "or(fern)") + "or(fern)", -81, 4);
        // The 21st is the one inside.
        dueSentence("fern" + times(18, " or fern") + " or not fern", -157, 4);
        dueSentence("fern" + times(18, " or fern") + " or(fern)", -153, 4);
        dueSentence("fern" + times(19, " or fern") + " or leaves", -161, 4);
        for (int nots = 0; nots <= 7; nots++) {
            String brackets = times(7 - nots, "(");
            String closed = times(7 - nots, ")");
            dueSentence(times(nots, "not ") + brackets + "fern" + closed, 8, 0);
            dueSentence(brackets + times(nots, "not ") + "fern" + closed, 8, 0);
            dueSentence(times(nots, "not ") + brackets + "not fern" + closed, -1 - 4 * nots - (7 - nots) - 4, 4);
            dueSentence(times(nots, "not ") + brackets + "(fern)" + closed, -1 - 4 * nots - (7 - nots) - 1, 4);
        }
        // What was closed is no longer around.
        dueSentence("(((((((fern)))))))and(((((((fern)))))))", 16, 0);
        dueSentence("not not not not not not not fern or not not not not not not not fern", 16, 0);
        dueSentence("(((((((fern or blind)and fern))))))", 10, 0);
        dueSentence("(((((((fern or blind)and not not fern))))))", -34, 4);
    }

    private static void numbersOfSentence() {
        says("SIGN NUMBER (leaves that have come; its number)");
        ParlourLeaves x = house();
        for (String measure : "leaves dust number".split(" ")) {
            due("below 0", sentence(x, measure + " < 0"), 1);
            due("none is below 0", x.said(NONE), 0);
            due("999", sentence(x, measure + " < 999"), 1);
            due("all are below 999", x.said(NONE), 4);
            due("above 999", sentence(x, measure + " > 999"), 1);
            due("none is above 999", x.said(NONE), 0);
        }
        sentence(x, "number = 3");
        due("the last plant's number", x.said(0), 3);
        sentence(x, "number > 3");
        due("no number above the last", x.said(NONE), 0);
        sentence(x, "number < 1");
        due("the first plant's number", x.said(0), 0);
    }

    private static void onesNow() {
        says("'blind' (it sees nothing now) | 'fern' | 'in' PARLOUR | 'sees' PARLOUR (now)");
        ParlourLeaves x = onDay(house(), 3);
        dueSaid(x, "blind", 2);
        dueSaid(x, "sees hall", 0, 1, 3);
        dueSaid(x, "sees den");
        dueSaid(x, "in den", 2);
        dueSaid(x, "fern", 2);
        x.days(1);
        due("behind a day none sees", x.said(NONE), 1);
        dueSaid(x, "blind", 0, 1, 2, 3);
        dueSaid(x, "sees hall");
        x.sponge(3);
        due("sponged it sees", x.said(NONE), 1);
        dueSaid(x, "blind", 0, 1, 2);
        says("'tells' PERSON (a leaf of it shows some deed of that one)");
        ParlourLeaves y = house();
        y.does(1, 0, 2);
        dueSaid(y, "tells bob");
        int[][] telling = {{}, {1}, {1, 3}, {0, 1, 3}};
        for (int day = 0; day <= 3; day++) {
            dueSaid(y, "tells bob", telling[day]);
            dueSaid(y, "tells ann");
            y.days(1);
        }
        says("'leaves' | 'dust' | 'number' ) SIGN NUMBER (leaves that have come; its number). SIGN: < = >.");
        ParlourLeaves z = house();
        doTimes(z, 2, 1);
        z.days(2);
        z.sponge(0);
        // Leaves 0 2 0 1, dust 0 2 2 2.
        dueSaid(z, "leaves < 1", 0, 2);
        dueSaid(z, "leaves < 2", 0, 2, 3);
        dueSaid(z, "leaves = 1", 3);
        dueSaid(z, "leaves > 1", 1);
        dueSaid(z, "leaves > 2");
        dueSaid(z, "dust < 2", 0);
        dueSaid(z, "dust = 2", 1, 2, 3);
        dueSaid(z, "dust > 1", 1, 2, 3);
        dueSaid(z, "dust > 2");
        dueSaid(z, "number < 2", 0, 1);
        dueSaid(z, "number = 2", 2);
        dueSaid(z, "number > 2", 3);
    }

    private static void joining() {
        says("COND: ALL { 'or' ALL }. ALL: ONE { 'and' ONE }.");
        ParlourLeaves x = house();
        dueSaid(x, "number = 0 or number = 1 and fern", 0);
        dueSaid(x, "(number = 0 or number = 2) and fern", 2);
        dueSaid(x, "fern and number = 0 or number = 1", 1);
        dueSaid(x, "not fern or number = 2", 0, 1, 2, 3);
        dueSaid(x, "not(fern or number = 1)", 0, 3);
        dueSaid(x, "not not fern", 2);
        // The longest of either kind, whose last part is what counts.
        dueSaid(x, "fern" + times(18, " or fern") + " or in hall", 2, 3);
        x.days(4);
        dueSaid(x, "blind" + times(18, " and blind") + " and fern", 2);
        dueSentence("blind" + times(19, "\nand fern"), 20, 0);
        dueSentence("(fern)" + times(6, "and(fern or blind)"), 20, 0);
    }

    // ---- FAULTS

    private static void firstFault() {
        says("FAULTS, the first along the text, of one TOKEN the least");
        dueHouse("dusty 0;?", -7, 2);
        dueHouse("deed a;deed a;dusty 0;", -13, 3);
        dueHouse("proof 7;dusty 0;", -7, 2);
        dueHouse("dusty 1;dusty 0;", -9, 3);
        dueHouse("dusty ?;dusty 0;", -7, 1);
        dueHouse("deed a deed a;", -8, 1);
        dueHouse("parlour a;plant p b 0;", -19, 3);
        dueHouse("parlour a;plant p a 0 ?", -21, 2);
        dueBook("day 0;tom does", -6, 2);
        dueBook("tom tom;", -2, 3);
        dueSentence("in ann and ?", -4, 3);
        // Of one token: what can't come or is not told is less than one too many.
        String forty = times(40, "day 1;");
        dueBook(forty + "tom does lie den;", -242, 3);
        dueBook(forty + "old does lie den;", -242, 3);
        dueBook(forty + "dusty 1;", -242, 1);
        dueBook(forty + ";", -242, 1);
        dueBook(forty + "1;", -242, 1);
        dueBook(forty + "abcdefgh;", -242, 1);
        String twenty = "fern" + times(19, " or fern");
        dueSentence(twenty + " or ann", -161, 1);
        dueSentence(twenty + " or )", -161, 1);
        dueSentence(twenty + " or 1", -161, 1);
        dueSentence("((((((((ann", -9, 1);
        dueSentence("(((((((()", -9, 1);
        dueSentence("not not not not not not not not and", -33, 1);
    }

    private static void cantCome() {
        says("1 no TOKEN, or one that can't come (at it; the end: how many bytes there are;");
        for (String text : new String[] {"parlour", "parlour a", "person", "deed", "dusty", "proof 2", "sight"}) {
            dueHouse(text, -1 - text.length(), 1);
            dueHouse(text + " \n", -1 - text.length() - 2, 1);
            dueHouse(text + " ?", -1 - text.length() - 1, 1);
        }
        String plant = "parlour a;plant";
        for (String more : new String[] {"", " p", " p a", " p a 3", " p a 3 fern"}) {
            dueHouse(plant + more, -1 - plant.length() - more.length(), 1);
        }
        for (String text : new String[] {"ann", "ann does", "ann does lie", "ann does lie den", "sponge", "sponge old", "carry",
            "carry old", "carry old den", "day", "day 1"}) {
            dueBook(text, -2 - text.length(), 1);
            dueBook(text + "  ", -2 - text.length() - 2, 1);
            dueBook(text + " (", -2 - text.length() - 1, 1);
        }
        for (String text : new String[] {"not", "(", "(fern", "in", "sees", "tells", "leaves", "leaves <", "fern or", "fern and"}) {
            dueSentence(text, -1 - text.length(), 1);
            dueSentence(text + "\n\n", -1 - text.length() - 2, 1);
            dueSentence(text + " ;", -1 - text.length() - 1, 1);
        }
        for (String text : new String[] {"fern fern", "fern )", "fern ;", "fern 1", "fern <", "fern ann"}) {
            dueSentence(text, -6, 1);
        }
    }

    private static void moreBytes() {
        says("the most bytes told, if there are more and no FAULT is ahead: TOKENS that begin ahead of it are read whole)");
        dueHouse(pad("dusty 0;", 940), -7, 2);
        dueHouse(pad("dusty 9", 940), -901, 1);
        dueHouse(pad("dusty 9;", 899) + "?" + blanks(9), -900, 1);
        // What begins at the most bytes is not looked at: it would be of another kind.
        dueHouse(pad("dusty 9;", 900) + "dusty 9;", -901, 1);
        dueHouse(pad("dusty", 900) + "0;", -901, 1);
        dueHouse(pad("deed a;deed", 900) + "a;", -901, 1);
        dueHouse(pad("person a;person b;person c;person d;", 900) + "person", -901, 1);
        dueBook(pad(times(40, "day 1;"), 400) + "day 1;", -402, 1);
        dueBook(pad("day", 400) + "0;", -402, 1);
        dueBook(pad("sponge", 400) + "tom;", -402, 1);
        dueSentence(pad("in", 200) + "tom", -201, 1);
        dueSentence(pad("fern" + times(19, " or fern") + " or", 200) + "fern", -201, 1);
        // What begins ahead of them is: by its first byte alone it would be another.
        dueHouse(pad("dusty", 899) + "60;", -901, 1);
        dueHouse(pad("dusty", 899) + "61;", -900, 2);
        dueHouse(pad("dusty", 899) + "6000;", -900, 1);
        dueHouse(pad("deed a;deed", 899) + "ab;", -901, 1);
        dueHouse(pad("deed ab;deed", 899) + "ab;", -900, 3);
        dueHouse(pad("deed", 893) + "abcdefg;", -901, 1);
        dueHouse(pad("deed", 893) + "abcdefgh;", -894, 1);
        dueHouse(pad("deed", 899) + "abcdefgh;", -900, 1);
        dueHouse(pad("dusty 9;", 899) + "dusty 9;", -900, 3);
        dueHouse(pad("dusty 9;", 899) + "proof 9;", -901, 1);
        dueHouse(pad("person a;person b;person c;person d;", 899) + "person e;", -900, 4);
        dueBook(pad("day", 399) + "60;", -402, 1);
        dueBook(pad("day", 399) + "61;", -401, 2);
        dueBook(pad("sponge", 399) + "old;", -402, 1);
        dueBook(pad("sponge", 399) + "ann;", -401, 3);
        dueBook(pad(times(40, "day 1;"), 399) + "day 1;", -401, 4);
        dueSentence(pad("in", 199) + "hall", -201, 1);
        dueSentence(pad("in", 199) + "halls", -200, 3);
        dueSentence(pad("fern" + times(19, " or fern") + " or", 199) + "fern", -200, 4);
        dueSentence(pad("leaves <", 199) + "1000", -200, 1);
        dueSentence(pad("fern", 198) + "andy", -199, 1);
    }

    private static void badNumbers() {
        says("2 a NUMBER that is not as told (at it);");
        dueHouse("dusty  0;", -8, 2);
        dueHouse("proof\n\n7;", -8, 2);
        dueHouse("parlour a;plant p a   10 fern;", -23, 2);
        dueBook("day 1;day  61;", -13, 2);
        // Where none is due it can't come.
        dueHouse("deed 0;", -6, 1);
        dueHouse("0;", -1, 1);
        dueBook("sponge 0;", -9, 1);
        dueSentence("in 0", -4, 1);
        dueSentence("0", -1, 1);
    }

    private static void badNames() {
        says("3 a NAME told twice, not told, or of another sort, two that must be unlike, or were told together (at the second),");
        String told = "parlour a;parlour b;plant p a 1;person n;deed d;";
        String[] noParlours = {"x", "p", "n", "d"};
        for (String no : noParlours) {
            dueHouse(told + "sight " + no + " a;", -1 - told.length() - 6, 3);
            dueHouse(told + "sight a " + no + ";", -1 - told.length() - 8, 3);
            dueHouse(told + "plant q " + no + " 1;", -1 - told.length() - 8, 3);
        }
        // A name that is told later was not told yet; a plant's own name is no parlour's.
        dueHouse("sight a b;parlour a;parlour b;", -7, 3);
        dueHouse("plant p a 1;parlour a;", -9, 3);
        dueHouse("parlour a;plant p p 1;", -19, 3);
        for (String no : new String[] {"tom", "old", "den", "lie"}) {
            dueBook(no + " does lie den;", -2, 3);
            dueSentence("tells " + no, -7, 3);
        }
        for (String no : new String[] {"tom", "ann", "old", "den"}) {
            dueBook("ann does " + no + " den;", -11, 3);
        }
        for (String no : new String[] {"tom", "ann", "old", "lie"}) {
            dueBook("ann does lie " + no + ";", -15, 3);
            dueBook("carry old " + no + ";", -12, 3);
            dueSentence("in " + no, -4, 3);
            dueSentence("sees " + no, -6, 3);
        }
        for (String no : new String[] {"tom", "ann", "den", "lie"}) {
            dueBook("sponge " + no + ";", -9, 3);
            dueBook("carry " + no + " den;", -8, 3);
        }
        // A word of the texts' own can't come where a name is due.
        for (String key : KEYS) {
            dueHouse(told + "sight " + key + " a;", -1 - told.length() - 6, 1);
            dueBook("sponge " + key + ";", -9, 1);
            dueBook("ann does " + key + " den;", -11, 1);
            dueSentence("in " + key, -4, 1);
            dueSentence("tells " + key, -7, 1);
        }
    }

    private static void toldAgain() {
        says("'dusty', 'proof' told again (at it);");
        dueHouse("dusty 9; dusty 9;", -10, 3);
        dueHouse("proof 2; proof 2;", -10, 3);
        dueHouse("dusty 9;proof 2;dusty", -17, 3);
        dueHouse("dusty 9;proof 2;deed a;proof ?", -24, 3);
        dueHouse("dusty 9;proof 2;", 2, 0);
    }

    private static void tooMany() {
        says("4 one more than there may be of a sort, a 41st LINE of a BOOK (at the LINE's first WORD),"
            + " a 21st ONE, a ninth within (at its first TOKEN).");
        dueHouse("person a;person b;person c;person d;  person e;", -39, 4);
        dueHouse("person a;person b;person c;person d;person ;", -37, 4);
        dueHouse("person a;person b;person c;person d;person a;", -37, 4);
        dueHouse("person a;person b;person c;person d;deed e;", 5, 0);
        dueBook(times(40, "day 1;") + " ann ?", -243, 4);
        dueSentence("fern" + times(19, " or fern") + " or  not", -162, 4);
        dueSentence("fern" + times(19, " or fern") + " or (", -161, 4);
        dueSentence("fern" + times(19, " or fern") + " and in tom", -162, 4);
        dueSentence("(((((((( in tom", -10, 4);
        dueSentence("((((((((not", -9, 4);
        dueSentence("(((((((((", -9, 4);
    }

    public static void main(String[] args) {
        words();
        numbers();
        blanksBetween();
        wordsGoOn();
        signs();
        mostOfHouse();
        sightLines();
        plantLines();
        dustyLines();
        proofLines();
        names();
        mostOfSorts();
        mostOfBook();
        bookDays();
        mostOfSentence();
        mostOnes();
        numbersOfSentence();
        onesNow();
        joining();
        firstFault();
        cantCome();
        moreBytes();
        badNumbers();
        badNames();
        toldAgain();
        tooMany();
        CHECK.finish();
    }
}
