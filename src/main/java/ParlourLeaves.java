import java.util.NoSuchElementException;

/** A house in which aspidistras bear witness; the document's promises are the methods, in its order. */
public final class ParlourLeaves {
    public static final int NONE = -1;

    private static final int MOST_TAPE = 940;
    private static final int MOST_HOUSE = 900;
    private static final int MOST_BOOK = 400;
    private static final int MOST_SENTENCE = 200;
    private static final int MOST_PARLOURS = 5;
    private static final int MOST_PLANTS = 6;
    private static final int MOST_PERSONS = 4;
    private static final int MOST_DEEDS = 5;
    private static final int MOST_NAMES = 20;
    private static final int MOST_SLOW = 9;
    private static final int MOST_DUSTY = 60;
    private static final int MOST_PROOF = 6;
    private static final int MOST_ACTS = 12;
    private static final int MOST_DUST = 99;
    private static final int MOST_LINES = 40;
    private static final int MOST_ONES = 20;
    private static final int MOST_WITHIN = 8;
    private static final int MOST_UNDONE = 8;
    private static final int MOST_DAYS = 60;
    private static final int MOST_SEEDS = 30;
    private static final int MOST_PAIRS = 6;
    private static final int ODDS_DAYS = 20;
    private static final int LAST_DAY = 400;
    private static final int IMAGES = 2;
    private static final int OTHER_LIVES = -1000;

    // A word is a number of seven times five bits, so that unlike words are unlike numbers.
    private static final int MOST_LETTERS = 7;
    private static final int LETTER_BITS = 5;
    private static final int MOST_DIGITS = 3;
    private static final int MOST_NUMBER = 999;

    // Sorts of names, numbered as count() numbers them.
    private static final int PARLOURS = 0;
    private static final int PLANTS = 1;
    private static final int PERSONS = 2;
    private static final int DEEDS = 3;
    private static final int SORTS = 4;
    private static final int[] MOST_OF_SORT = {MOST_PARLOURS, MOST_PLANTS, MOST_PERSONS, MOST_DEEDS};

    // Words that are no names: their tokens are their places in KEYS.
    private static final String KEYS = "parlour sight plant fern person deed dusty proof does sponge carry day or and not blind in sees tells leaves dust number ";
    private static final int PARLOUR = 0;
    private static final int SIGHT = 1;
    private static final int PLANT = 2;
    private static final int FERN = 3;
    private static final int PERSON = 4;
    private static final int DEED = 5;
    private static final int DUSTY = 6;
    private static final int PROOF = 7;
    private static final int DOES = 8;
    private static final int SPONGE = 9;
    private static final int CARRY = 10;
    private static final int DAY = 11;
    private static final int OR = 12;
    private static final int AND = 13;
    private static final int NOT = 14;
    private static final int BLIND = 15;
    private static final int IN = 16;
    private static final int SEES = 17;
    private static final int TELLS = 18;
    private static final int LEAVES = 19;
    private static final int DUST = 20;
    private static final int NUMBER = 21;
    private static final int KEY_COUNT = 22;

    // The other tokens; a sign is its own byte, and none of these numbers is one of theirs.
    private static final int OPEN = '(';
    private static final int CLOSE = ')';
    private static final int SEMICOLON = ';';
    private static final int LESS = '<';
    private static final int EQUAL = '=';
    private static final int MORE = '>';
    private static final int NAME = 100;
    private static final int NUMERAL = 101;
    private static final int END = 102;
    private static final int NO_TOKEN = 103;

    // Kinds of faults.
    private static final int CANT_COME = 1;
    private static final int BAD_NUMBER = 2;
    private static final int BAD_NAME = 3;
    private static final int TOO_MANY = 4;

    // Why a line of a book is wrong: what the deed itself says, and these more.
    private static final int WRONG_SPONGING = 10;
    private static final int WRONG_CARRYING = 20;
    private static final int FEWER_DAYS = 31;

    private final Tape tape;
    private final House house;
    private final Life life;
    private final Life trial;
    private final Past past;
    private final Image[] images;
    private final HouseText houseText;
    private final BookText bookText;
    private final Sentence sentence;
    private final Sentence draftSentence;
    private final Foresight foresight;
    private final Way way;
    private final Draws draws;
    private final StringBuilder card;
    private int faultKind;
    private int asked;
    private int covered;

    /** Promise 1. */
    public ParlourLeaves() {
        tape = new Tape();
        house = new House();
        life = new Life(house);
        trial = new Life(house);
        past = new Past(house);
        images = new Image[IMAGES];
        for (int k = 0; k < IMAGES; k++) {
            images[k] = new Image();
        }
        houseText = new HouseText(tape);
        bookText = new BookText(tape, house);
        sentence = new Sentence();
        draftSentence = new Sentence();
        foresight = new Foresight(house, life);
        way = new Way();
        draws = new Draws();
        card = new StringBuilder();
        asked = NONE;
        covered = NONE;
    }

    /** Promise 2. */
    public int feed(int a, int b, int c, int d, int e) {
        if (tape.length + 20 > MOST_TAPE) {
            return NONE;
        }
        tape.addNumber(a);
        tape.addNumber(b);
        tape.addNumber(c);
        tape.addNumber(d);
        tape.addNumber(e);
        return tape.length;
    }

    /** Promise 3. */
    public boolean end(int n) {
        if (n < 0 || n > tape.length) {
            return false;
        }
        tape.length = n;
        return true;
    }

    /** Promise 4. */
    public int house() {
        int lines = houseText.readAll();
        endReading();
        if (lines == NONE) {
            return -1 - tape.faultPlace;
        }
        house.copyFrom(houseText.draft);
        life.begin();
        past.forget();
        sentence.clear();
        return lines;
    }

    /** Promise 5. */
    public int fault() {
        return faultKind;
    }

    /** Promise 6. */
    public int plant(int p, int what) throws NoSuchElementException {
        if (!house.has(PLANTS, p)) {
            throw new NoSuchElementException();
        }
        switch (what) {
            case 0: return life.at[p];
            case 1: return house.slow[p];
            case 2: return house.fern[p];
            case 3: return life.dust[p];
            case 4: return life.seenBy(p);
            case 5: return Integer.bitCount(life.actsShown(p));
            case 6: return life.actsShown(p);
            case 7: return life.leavesDue(p);
            default: throw new NoSuchElementException();
        }
    }

    /** Promise 7. */
    public int act(int i, int what) throws NoSuchElementException {
        if (!life.hasAct(i)) {
            throw new NoSuchElementException();
        }
        switch (what) {
            case 0: return life.doer[i];
            case 1: return life.deed[i];
            case 2: return life.where[i];
            case 3: return life.when[i];
            case 4: return life.witnessesBy(i, life.day);
            case 5: return life.witnessesDue(i);
            case 6: return life.isProved(i) ? 1 : 0;
            default: throw new NoSuchElementException();
        }
    }

    /** Promise 8. */
    public int comes(int p, int i) {
        return house.has(PLANTS, p) && life.hasAct(i) ? life.leafDay[p][i] : NONE;
    }

    /** Promise 9. */
    public int sights(int l) {
        return house.has(PARLOURS, l) ? house.sight[l] : NONE;
    }

    /** Promise 10. */
    public int now(int what) {
        switch (what) {
            case 0: return life.day;
            case 1: return life.acts;
            case 2: return life.actsProved();
            case 3: return life.plantsThatSee();
            case 4: return life.plantsWithDust();
            case 5: return life.allLeavesCome();
            case 6: return life.allLeavesDue();
            case 7: return life.parloursUnseen();
            default: return NONE;
        }
    }

    /** Promise 11. */
    public int does(int person, int d, int l) {
        if (!house.has(PERSONS, person) || !house.has(DEEDS, d) || !house.has(PARLOURS, l)) {
            return NONE;
        }
        int why = life.whyNotDo();
        if (why == 0) {
            past.keep(life);
            life.doDeed(person, d, l);
        }
        return why;
    }

    /** Promise 12. */
    public int sponge(int p) {
        if (!house.has(PLANTS, p)) {
            return NONE;
        }
        int why = life.whyNotSponge(p);
        if (why == 0) {
            past.keep(life);
            life.spongeOff(p);
        }
        return why;
    }

    /** Promise 13. */
    public int carry(int p, int l) {
        if (!house.has(PLANTS, p) || !house.has(PARLOURS, l)) {
            return NONE;
        }
        int why = life.whyNotCarry(p, l);
        if (why == 0) {
            past.keep(life);
            life.carryTo(p, l);
        }
        return why;
    }

    /** Promise 14. */
    public int days(int n) {
        if (n < 1 || n > MOST_DAYS) {
            return NONE;
        }
        if (life.daysLeft() == 0) {
            return 0;
        }
        past.keep(life);
        return life.goDays(n);
    }

    /** Promise 15. */
    public int undo() {
        return past.takeBack(life);
    }

    /** Promise 16. */
    public int guilty(int person, int d) {
        if (!house.has(PERSONS, person) || !house.has(DEEDS, d)) {
            return NONE;
        }
        return (life.actsProved() & life.actsOf(person) & life.actsOfDeed(d)) != 0 ? 1 : 0;
    }

    /** Promise 17. */
    public int proves(int i) {
        return life.hasAct(i) ? foresight.dayOfProof(i) : NONE;
    }

    /** Promise 18. */
    public int hides(int k) {
        return k < 0 || k > MOST_DAYS ? NONE : foresight.hiddenParlours(k);
    }

    /** Promise 19. */
    public int dark(int l) {
        return house.has(PARLOURS, l) ? foresight.daysTillDark(l) : NONE;
    }

    /** Promise 20. */
    public int fits() {
        int parlours = foresight.fittingParlours(tape);
        tape.clear();
        if (parlours > 0) {
            asked = foresight.plantToAsk(parlours);
        }
        return parlours;
    }

    /** Promise 21. */
    public int ask() {
        return asked;
    }

    /** Promise 22. */
    public int cover() {
        covered = foresight.leastCover();
        return Integer.bitCount(covered);
    }

    /** Promise 23. */
    public int covering() {
        return covered;
    }

    /** Promise 24. */
    public int round(int l) {
        return house.has(PARLOURS, l) ? way.find(house, l, life.parloursWithDust()) : NONE;
    }

    /** Promise 25. */
    public int roundAt(int k) {
        return k >= 0 && k < way.length ? way.steps[k] : NONE;
    }

    /** Promise 26. */
    public int choice() {
        return house.size[PARLOURS] == 0 ? NONE : foresight.chooseByTurns();
    }

    /** Promise 27. */
    public int chosen(int what) {
        switch (what) {
            case 0: return foresight.maidsPlant;
            case 1: return foresight.maidsParlour;
            case 2: return foresight.familysParlour;
            default: return NONE;
        }
    }

    /** Promise 28. */
    public int elder() {
        int elder = NONE;
        int most = 0;
        for (int p = 0; p < house.size[PLANTS]; p++) {
            int leaves = Integer.bitCount(life.actsShown(p));
            if (leaves > most) {
                most = leaves;
                elder = p;
            }
        }
        return elder;
    }

    /** Promise 29. */
    public int card(int p) {
        if (!house.has(PLANTS, p)) {
            return NONE;
        }
        card.setLength(0);
        house.appendPlantName(card, p);
        if (house.fern[p] == 1) {
            card.append(" is a fern");
            return card.length();
        }
        card.append(" has ");
        card.append(Integer.bitCount(life.actsShown(p)));
        if (life.seenBy(p) == 0) {
            card.append(" blind");
        }
        return card.length();
    }

    /** Promise 30. */
    public int byteAt(int i) {
        return i >= 0 && i < card.length() ? card.charAt(i) : NONE;
    }

    /** Promise 31. */
    public int drawn(int n, int seed) {
        if (n < 1 || n > MOST_DAYS) {
            return NONE;
        }
        if (life.daysLeft() == 0) {
            return 0;
        }
        past.keep(life);
        return draws.liveDays(life, n, seed);
    }

    /** Promise 32. */
    public int odds(int person, int n, int seed) {
        if (!house.has(PERSONS, person) || n < 1 || n > MOST_SEEDS) {
            return NONE;
        }
        int proved = 0;
        for (int k = 0; k < n; k++) {
            trial.copyFrom(life);
            draws.liveDays(trial, ODDS_DAYS, seed + k);
            if ((trial.actsProved() & trial.actsOf(person)) != 0) {
                proved++;
            }
        }
        return proved;
    }

    /** Promise 33. */
    public int book(int lives) {
        if (lives != 0 && lives != 1) {
            return OTHER_LIVES;
        }
        boolean sound = bookText.readAll();
        endReading();
        if (!sound) {
            return -2 - tape.faultPlace;
        }
        trial.copyFrom(life);
        bookText.judge(trial);
        if (lives == 1 && bookText.right > 0) {
            past.keep(life);
            life.copyFrom(trial);
        }
        return bookText.why == 0 ? NONE : bookText.right;
    }

    /** Promise 34. */
    public int told(int what) {
        switch (what) {
            case 0: return bookText.why;
            case 1: return bookText.right;
            case 2: return bookText.dayThen;
            case 3: return bookText.provedThen;
            default: return NONE;
        }
    }

    /** Promise 35. */
    public int sentence() {
        boolean sound = draftSentence.readFrom(tape, house);
        endReading();
        if (!sound) {
            return -1 - tape.faultPlace;
        }
        sentence.copyFrom(draftSentence);
        return sentence.ones;
    }

    /** Promise 36. */
    public int said(int k) {
        if (sentence.ones == 0 || k < NONE) {
            return NONE;
        }
        int plants = sentence.plantsOf(life);
        return k == NONE ? Integer.bitCount(plants) : plantAt(plants, k);
    }

    /** Promise 37. */
    public boolean image(int k) {
        if (k < 0 || k >= IMAGES) {
            return false;
        }
        images[k].keep(house, life, sentence);
        return true;
    }

    /** Promise 38. */
    public boolean restore(int k) {
        if (k < 0 || k >= IMAGES || !images[k].kept) {
            return false;
        }
        house.copyFrom(images[k].house);
        life.copyFrom(images[k].life);
        sentence.copyFrom(images[k].sentence);
        past.forget();
        return true;
    }

    /** Promise 39. */
    public int count(int what) {
        switch (what) {
            case 0: return house.size[PARLOURS];
            case 1: return house.size[PLANTS];
            case 2: return house.size[PERSONS];
            case 3: return house.size[DEEDS];
            case 4: return house.dusty;
            case 5: return house.proof;
            case 6: return tape.length;
            default: return NONE;
        }
    }

    private void endReading() {
        faultKind = tape.faultKind;
        tape.clear();
    }

    /** The k-th (from 0) of the plants whose bits are set. */
    private static int plantAt(int bits, int k) {
        int left = k;
        for (int place = 0; place < MOST_PLANTS; place++) {
            if (hasBit(bits, place)) {
                if (left == 0) {
                    return place;
                }
                left--;
            }
        }
        return NONE;
    }

    private static int allBits(int count) {
        return (1 << count) - 1;
    }

    private static boolean hasBit(int bits, int place) {
        return (bits >>> place & 1) == 1;
    }

    /** The bytes that wait, and their tokens: the one at hand is looked at before the next is read. */
    private static final class Tape {
        final char[] bytes = new char[MOST_TAPE];
        int length;
        private final long[] keys = new long[KEY_COUNT];
        private int limit;
        private int next;
        int token;
        int start;
        long word;
        int value;
        int faultKind;
        int faultPlace;

        Tape() {
            int key = 0;
            for (int k = 0; k < KEYS.length() && key < KEY_COUNT; k++) {
                char sign = KEYS.charAt(k);
                if (sign == ' ') {
                    key++;
                } else {
                    keys[key] = keys[key] << LETTER_BITS | sign - 'a' + 1;
                }
            }
        }

        /** The caller has seen to it that there is room. */
        void addNumber(int number) {
            for (int shift = 24; shift >= 0 && length < MOST_TAPE; shift -= 8) {
                bytes[length] = (char) (number >>> shift & 255);
                length++;
            }
        }

        void clear() {
            length = 0;
        }

        void beginReading(int mostBytes) {
            limit = mostBytes;
            next = 0;
            faultKind = 0;
            faultPlace = 0;
            read();
        }

        void read() {
            int last = Math.min(length, limit);
            while (next < last && (bytes[next] == ' ' || bytes[next] == '\n')) {
                next++;
            }
            if (next >= last) {
                start = last;
                token = length > limit ? NO_TOKEN : END;
                return;
            }
            start = next;
            char sign = bytes[next];
            if (sign >= 'a' && sign <= 'z' || sign >= '0' && sign <= '9') {
                readRun();
                return;
            }
            boolean known = sign == OPEN || sign == CLOSE || sign >= SEMICOLON && sign <= MORE;
            token = known ? sign : NO_TOKEN;
            next++;
        }

        private void readRun() {
            int letters = 0;
            int digits = 0;
            word = 0;
            value = 0;
            for (; next < length; next++) {
                char sign = bytes[next];
                if (sign >= 'a' && sign <= 'z') {
                    letters++;
                    word = word << LETTER_BITS | sign - 'a' + 1;
                } else if (sign >= '0' && sign <= '9') {
                    digits++;
                    value = value * 10 + sign - '0';
                } else {
                    break;
                }
            }
            if (letters == 0) {
                token = digits <= MOST_DIGITS ? NUMERAL : NO_TOKEN;
                return;
            }
            token = digits == 0 && letters <= MOST_LETTERS ? NAME : NO_TOKEN;
            for (int key = 0; token == NAME && key < KEY_COUNT; key++) {
                if (keys[key] == word) {
                    token = key;
                }
            }
        }

        boolean failAt(int kind, int place) {
            faultKind = kind;
            faultPlace = place;
            return false;
        }

        boolean fail(int kind) {
            return failAt(kind, start);
        }

        boolean take(int due) {
            if (token != due) {
                return fail(CANT_COME);
            }
            read();
            return true;
        }

        /** The number of something told in the house, or NONE with a fault. */
        int takeKnown(House house, int sort) {
            if (token != NAME) {
                fail(CANT_COME);
                return NONE;
            }
            int place = house.placeOfWord(word);
            if (place == NONE || house.wordSort[place] != sort) {
                fail(BAD_NAME);
                return NONE;
            }
            read();
            return house.wordNumber[place];
        }

        /** One of the signs that compare, or NONE with a fault. */
        int takeSign() {
            int sign = token;
            if (sign != LESS && sign != EQUAL && sign != MORE) {
                fail(CANT_COME);
                return NONE;
            }
            read();
            return sign;
        }

        /** A number from the least to the most, or NONE with a fault. */
        int takeNumber(int least, int most) {
            if (token != NUMERAL) {
                fail(CANT_COME);
                return NONE;
            }
            if (value < least || value > most) {
                fail(BAD_NUMBER);
                return NONE;
            }
            int number = value;
            read();
            return number;
        }
    }

    /** What a house's text tells; nothing of it changes as days go. */
    private static final class House {
        final int[] size = new int[SORTS];
        final int[] sight = new int[MOST_PARLOURS];
        final int[] home = new int[MOST_PLANTS];
        final int[] slow = new int[MOST_PLANTS];
        final int[] fern = new int[MOST_PLANTS];
        final long[] plantWord = new long[MOST_PLANTS];
        final long[] word = new long[MOST_NAMES];
        final int[] wordSort = new int[MOST_NAMES];
        final int[] wordNumber = new int[MOST_NAMES];
        int words;
        int dusty = 6;
        int proof = 2;

        void clear() {
            for (int sort = 0; sort < SORTS; sort++) {
                size[sort] = 0;
            }
            for (int l = 0; l < MOST_PARLOURS; l++) {
                sight[l] = 0;
            }
            words = 0;
            dusty = 6;
            proof = 2;
        }

        void copyFrom(House other) {
            System.arraycopy(other.size, 0, size, 0, SORTS);
            System.arraycopy(other.sight, 0, sight, 0, MOST_PARLOURS);
            System.arraycopy(other.home, 0, home, 0, MOST_PLANTS);
            System.arraycopy(other.slow, 0, slow, 0, MOST_PLANTS);
            System.arraycopy(other.fern, 0, fern, 0, MOST_PLANTS);
            System.arraycopy(other.plantWord, 0, plantWord, 0, MOST_PLANTS);
            System.arraycopy(other.word, 0, word, 0, MOST_NAMES);
            System.arraycopy(other.wordSort, 0, wordSort, 0, MOST_NAMES);
            System.arraycopy(other.wordNumber, 0, wordNumber, 0, MOST_NAMES);
            words = other.words;
            dusty = other.dusty;
            proof = other.proof;
        }

        boolean has(int sort, int n) {
            return n >= 0 && n < size[sort];
        }

        boolean isFull(int sort) {
            return size[sort] >= MOST_OF_SORT[sort];
        }

        int placeOfWord(long sought) {
            for (int k = 0; k < words; k++) {
                if (word[k] == sought) {
                    return k;
                }
            }
            return NONE;
        }

        /** The caller has seen to it that the sort is not full, so that there is room for the word, too. */
        void addName(long told, int sort) {
            word[words] = told;
            wordSort[words] = sort;
            wordNumber[words] = size[sort];
            words++;
            if (sort == PLANTS) {
                plantWord[size[sort]] = told;
            }
            size[sort]++;
        }

        void addSight(int l, int other) {
            sight[l] |= 1 << other;
            sight[other] |= 1 << l;
        }

        /** What a plant that is not blind sees from a parlour. */
        int reach(int l) {
            return sight[l] | 1 << l;
        }

        void appendPlantName(StringBuilder text, int p) {
            for (int shift = (MOST_LETTERS - 1) * LETTER_BITS; shift >= 0; shift -= LETTER_BITS) {
                int letter = (int) (plantWord[p] >>> shift & 31);
                if (letter != 0) {
                    text.append((char) ('a' + letter - 1));
                }
            }
        }
    }

    /** All that changes as days go. */
    private static final class Life {
        final House house;
        int day;
        int acts;
        final int[] doer = new int[MOST_ACTS];
        final int[] deed = new int[MOST_ACTS];
        final int[] where = new int[MOST_ACTS];
        final int[] when = new int[MOST_ACTS];
        final int[][] leafDay = new int[MOST_PLANTS][MOST_ACTS];
        final int[] latestLeaf = new int[MOST_PLANTS];
        final int[] at = new int[MOST_PLANTS];
        final int[] dust = new int[MOST_PLANTS];

        Life(House house) {
            this.house = house;
        }

        void begin() {
            day = 0;
            acts = 0;
            for (int p = 0; p < MOST_PLANTS; p++) {
                latestLeaf[p] = 0;
                dust[p] = 0;
                at[p] = house.home[p];
            }
        }

        void copyFrom(Life other) {
            day = other.day;
            acts = other.acts;
            System.arraycopy(other.doer, 0, doer, 0, acts);
            System.arraycopy(other.deed, 0, deed, 0, acts);
            System.arraycopy(other.where, 0, where, 0, acts);
            System.arraycopy(other.when, 0, when, 0, acts);
            for (int p = 0; p < MOST_PLANTS; p++) {
                System.arraycopy(other.leafDay[p], 0, leafDay[p], 0, acts);
            }
            System.arraycopy(other.latestLeaf, 0, latestLeaf, 0, MOST_PLANTS);
            System.arraycopy(other.at, 0, at, 0, MOST_PLANTS);
            System.arraycopy(other.dust, 0, dust, 0, MOST_PLANTS);
        }

        boolean hasAct(int i) {
            return i >= 0 && i < acts;
        }

        int plants() {
            return house.size[PLANTS];
        }

        int daysLeft() {
            return LAST_DAY - day;
        }

        boolean isBlind(int p) {
            return house.fern[p] == 1 || dust[p] >= house.dusty;
        }

        int seenBy(int p) {
            return isBlind(p) ? 0 : house.reach(at[p]);
        }

        /** The day on which a leaf would come that a plant puts up for what is done now. */
        int nextLeafDay(int p) {
            return Math.max(day, latestLeaf[p]) + house.slow[p];
        }

        int whyNotDo() {
            return acts >= MOST_ACTS ? 1 : 0;
        }

        int whyNotSponge(int p) {
            return dust[p] == 0 ? 1 : 0;
        }

        int whyNotCarry(int p, int l) {
            return at[p] == l ? 1 : 0;
        }

        void doDeed(int person, int d, int l) {
            if (acts >= MOST_ACTS) {
                return;
            }
            doer[acts] = person;
            deed[acts] = d;
            where[acts] = l;
            when[acts] = day;
            for (int p = 0; p < plants(); p++) {
                leafDay[p][acts] = NONE;
                if (hasBit(seenBy(p), l)) {
                    latestLeaf[p] = nextLeafDay(p);
                    leafDay[p][acts] = latestLeaf[p];
                }
            }
            acts++;
        }

        void spongeOff(int p) {
            dust[p] = 0;
        }

        void carryTo(int p, int l) {
            at[p] = l;
        }

        /** How many days went by. */
        int goDays(int n) {
            int gone = Math.min(n, daysLeft());
            day += gone;
            for (int p = 0; p < plants(); p++) {
                dust[p] = Math.min(MOST_DUST, dust[p] + gone);
            }
            return gone;
        }

        /** Plants whose leaves for an act come on that day or ahead of it. */
        int witnessesBy(int i, int lastDay) {
            int bits = 0;
            for (int p = 0; p < plants(); p++) {
                if (leafDay[p][i] != NONE && leafDay[p][i] <= lastDay) {
                    bits |= 1 << p;
                }
            }
            return bits;
        }

        /** Plants whose leaves for an act are still to come. */
        int witnessesDue(int i) {
            int bits = 0;
            for (int p = 0; p < plants(); p++) {
                if (leafDay[p][i] > day) {
                    bits |= 1 << p;
                }
            }
            return bits;
        }

        boolean isProved(int i) {
            return Integer.bitCount(witnessesBy(i, day)) >= house.proof;
        }

        int actsShown(int p) {
            int bits = 0;
            for (int i = 0; i < acts; i++) {
                if (leafDay[p][i] != NONE && leafDay[p][i] <= day) {
                    bits |= 1 << i;
                }
            }
            return bits;
        }

        int leavesDue(int p) {
            int due = 0;
            for (int i = 0; i < acts; i++) {
                if (leafDay[p][i] > day) {
                    due++;
                }
            }
            return due;
        }

        int actsProved() {
            int bits = 0;
            for (int i = 0; i < acts; i++) {
                if (isProved(i)) {
                    bits |= 1 << i;
                }
            }
            return bits;
        }

        int actsOf(int person) {
            int bits = 0;
            for (int i = 0; i < acts; i++) {
                if (doer[i] == person) {
                    bits |= 1 << i;
                }
            }
            return bits;
        }

        int actsOfDeed(int d) {
            int bits = 0;
            for (int i = 0; i < acts; i++) {
                if (deed[i] == d) {
                    bits |= 1 << i;
                }
            }
            return bits;
        }

        int plantsThatSee() {
            int bits = 0;
            for (int p = 0; p < plants(); p++) {
                if (!isBlind(p)) {
                    bits |= 1 << p;
                }
            }
            return bits;
        }

        int plantsWithDust() {
            int bits = 0;
            for (int p = 0; p < plants(); p++) {
                if (dust[p] > 0) {
                    bits |= 1 << p;
                }
            }
            return bits;
        }

        int parloursWithDust() {
            int bits = 0;
            for (int p = 0; p < plants(); p++) {
                if (dust[p] > 0) {
                    bits |= 1 << at[p];
                }
            }
            return bits;
        }

        int parloursUnseen() {
            int seen = 0;
            for (int p = 0; p < plants(); p++) {
                seen |= seenBy(p);
            }
            return allBits(house.size[PARLOURS]) & ~seen;
        }

        int allLeavesCome() {
            int leaves = 0;
            for (int p = 0; p < plants(); p++) {
                leaves += Integer.bitCount(actsShown(p));
            }
            return leaves;
        }

        int allLeavesDue() {
            int leaves = 0;
            for (int p = 0; p < plants(); p++) {
                leaves += leavesDue(p);
            }
            return leaves;
        }
    }

    /** The lives ahead of the latest things done, the oldest of which gives way. */
    private static final class Past {
        private final Life[] lives = new Life[MOST_UNDONE];
        private int next;
        private int kept;

        Past(House house) {
            for (int k = 0; k < MOST_UNDONE; k++) {
                lives[k] = new Life(house);
            }
        }

        void forget() {
            kept = 0;
        }

        void keep(Life life) {
            lives[next].copyFrom(life);
            next = (next + 1) % MOST_UNDONE;
            kept = Math.min(MOST_UNDONE, kept + 1);
        }

        int takeBack(Life life) {
            if (kept == 0) {
                return NONE;
            }
            next = (next + MOST_UNDONE - 1) % MOST_UNDONE;
            life.copyFrom(lives[next]);
            kept--;
            return kept;
        }
    }

    private static final class Image {
        final House house = new House();
        final Life life = new Life(house);
        final Sentence sentence = new Sentence();
        boolean kept;

        void keep(House nowHouse, Life nowLife, Sentence nowSentence) {
            house.copyFrom(nowHouse);
            life.copyFrom(nowLife);
            sentence.copyFrom(nowSentence);
            kept = true;
        }
    }

    private static final class HouseText {
        private final Tape tape;
        final House draft = new House();
        private boolean dustyTold;
        private boolean proofTold;

        HouseText(Tape tape) {
            this.tape = tape;
        }

        /** How many lines, or NONE with a fault. */
        int readAll() {
            draft.clear();
            dustyTold = false;
            proofTold = false;
            tape.beginReading(MOST_HOUSE);
            int lines = 0;
            for (; lines < MOST_HOUSE && tape.token != END; lines++) {
                if (!readLine() || !tape.take(SEMICOLON)) {
                    return NONE;
                }
            }
            return lines;
        }

        private boolean readLine() {
            switch (tape.token) {
                case PARLOUR: return readNamed(PARLOURS);
                case PERSON: return readNamed(PERSONS);
                case DEED: return readNamed(DEEDS);
                case PLANT: return readPlant();
                case SIGHT: return readSight();
                case DUSTY: return readDusty();
                case PROOF: return readProof();
                default: return tape.fail(CANT_COME);
            }
        }

        private boolean readNamed(int sort) {
            if (draft.isFull(sort)) {
                return tape.fail(TOO_MANY);
            }
            tape.read();
            if (tape.token != NAME) {
                return tape.fail(CANT_COME);
            }
            if (draft.placeOfWord(tape.word) != NONE) {
                return tape.fail(BAD_NAME);
            }
            draft.addName(tape.word, sort);
            tape.read();
            return true;
        }

        private boolean readPlant() {
            int p = draft.size[PLANTS];
            if (!readNamed(PLANTS)) {
                return false;
            }
            int l = tape.takeKnown(draft, PARLOURS);
            if (l == NONE) {
                return false;
            }
            int slow = tape.takeNumber(1, MOST_SLOW);
            if (slow == NONE) {
                return false;
            }
            draft.home[p] = l;
            draft.slow[p] = slow;
            draft.fern[p] = 0;
            if (tape.token == FERN) {
                draft.fern[p] = 1;
                tape.read();
            }
            return true;
        }

        private boolean readSight() {
            tape.read();
            int l = tape.takeKnown(draft, PARLOURS);
            if (l == NONE) {
                return false;
            }
            int second = tape.start;
            int other = tape.takeKnown(draft, PARLOURS);
            if (other == NONE) {
                return false;
            }
            if (l == other || hasBit(draft.sight[l], other)) {
                return tape.failAt(BAD_NAME, second);
            }
            draft.addSight(l, other);
            return true;
        }

        private boolean readDusty() {
            if (dustyTold) {
                return tape.fail(BAD_NAME);
            }
            dustyTold = true;
            tape.read();
            draft.dusty = tape.takeNumber(1, MOST_DUSTY);
            return draft.dusty != NONE;
        }

        private boolean readProof() {
            if (proofTold) {
                return tape.fail(BAD_NAME);
            }
            proofTold = true;
            tape.read();
            draft.proof = tape.takeNumber(1, MOST_PROOF);
            return draft.proof != NONE;
        }
    }

    /** A book as it was read, and what was judged of the latest one that had no fault. */
    private static final class BookText {
        private final Tape tape;
        private final House house;
        private final int[] kind = new int[MOST_LINES];
        private final int[] first = new int[MOST_LINES];
        private final int[] second = new int[MOST_LINES];
        private final int[] third = new int[MOST_LINES];
        private int lines;
        int why = NONE;
        int right = NONE;
        int dayThen = NONE;
        int provedThen = NONE;

        BookText(Tape tape, House house) {
            this.tape = tape;
            this.house = house;
        }

        boolean readAll() {
            tape.beginReading(MOST_BOOK);
            lines = 0;
            for (int turn = 0; turn <= MOST_LINES && tape.token != END; turn++) {
                if (!readLine() || !tape.take(SEMICOLON)) {
                    return false;
                }
            }
            return true;
        }

        private boolean readLine() {
            switch (tape.token) {
                case NAME: return readDoes();
                case SPONGE: return readSponge();
                case CARRY: return readCarry();
                case DAY: return readDay();
                default: return tape.fail(CANT_COME);
            }
        }

        private boolean addLine(int lineKind, int a, int b, int c) {
            if (lines >= MOST_LINES) {
                return false;
            }
            kind[lines] = lineKind;
            first[lines] = a;
            second[lines] = b;
            third[lines] = c;
            lines++;
            return true;
        }

        private boolean readDoes() {
            int begin = tape.start;
            int person = tape.takeKnown(house, PERSONS);
            if (person == NONE) {
                return false;
            }
            // Only here: a name that is no person's is the lesser fault of the same token.
            if (lines >= MOST_LINES) {
                return tape.failAt(TOO_MANY, begin);
            }
            if (!tape.take(DOES)) {
                return false;
            }
            int d = tape.takeKnown(house, DEEDS);
            if (d == NONE) {
                return false;
            }
            int l = tape.takeKnown(house, PARLOURS);
            return l != NONE && addLine(DOES, person, d, l);
        }

        private boolean readSponge() {
            if (lines >= MOST_LINES) {
                return tape.fail(TOO_MANY);
            }
            tape.read();
            int p = tape.takeKnown(house, PLANTS);
            return p != NONE && addLine(SPONGE, p, 0, 0);
        }

        private boolean readCarry() {
            if (lines >= MOST_LINES) {
                return tape.fail(TOO_MANY);
            }
            tape.read();
            int p = tape.takeKnown(house, PLANTS);
            if (p == NONE) {
                return false;
            }
            int l = tape.takeKnown(house, PARLOURS);
            return l != NONE && addLine(CARRY, p, l, 0);
        }

        private boolean readDay() {
            if (lines >= MOST_LINES) {
                return tape.fail(TOO_MANY);
            }
            tape.read();
            int n = tape.takeNumber(1, MOST_DAYS);
            return n != NONE && addLine(DAY, n, 0, 0);
        }

        /** Lives the lines on a life up to the first that is wrong. */
        void judge(Life life) {
            why = 0;
            right = 0;
            for (int k = 0; k < lines && why == 0; k++) {
                why = liveLine(life, k);
                if (why == 0) {
                    right++;
                }
            }
            dayThen = life.day;
            provedThen = life.actsProved();
        }

        private int liveLine(Life life, int k) {
            switch (kind[k]) {
                case DOES: return liveDoes(life, k);
                case SPONGE: return liveSponge(life, first[k]);
                case CARRY: return liveCarry(life, first[k], second[k]);
                default: return liveDay(life, first[k]);
            }
        }

        private int liveDoes(Life life, int k) {
            int whyNot = life.whyNotDo();
            if (whyNot == 0) {
                life.doDeed(first[k], second[k], third[k]);
            }
            return whyNot;
        }

        private static int liveSponge(Life life, int p) {
            int whyNot = life.whyNotSponge(p);
            if (whyNot != 0) {
                return WRONG_SPONGING + whyNot;
            }
            life.spongeOff(p);
            return 0;
        }

        private static int liveCarry(Life life, int p, int l) {
            int whyNot = life.whyNotCarry(p, l);
            if (whyNot != 0) {
                return WRONG_CARRYING + whyNot;
            }
            life.carryTo(p, l);
            return 0;
        }

        private static int liveDay(Life life, int n) {
            if (n > life.daysLeft()) {
                return FEWER_DAYS;
            }
            life.goDays(n);
            return 0;
        }
    }

    /** A sentence, its parts ahead of what joins them; one without ones is none. */
    private static final class Sentence {
        private static final int MOST_PARTS = MOST_ONES + MOST_ONES;
        private final int[] kind = new int[MOST_PARTS];
        private final int[] first = new int[MOST_PARTS];
        private final int[] second = new int[MOST_PARTS];
        private final int[] open = new int[MOST_PARTS];
        private int parts;
        int ones;

        void clear() {
            parts = 0;
            ones = 0;
        }

        void copyFrom(Sentence other) {
            parts = other.parts;
            ones = other.ones;
            System.arraycopy(other.kind, 0, kind, 0, parts);
            System.arraycopy(other.first, 0, first, 0, parts);
            System.arraycopy(other.second, 0, second, 0, parts);
        }

        /** False where what it is about could not be read. */
        private boolean add(int partKind, int a, int b) {
            if (a == NONE || b == NONE || parts >= MOST_PARTS) {
                return false;
            }
            kind[parts] = partKind;
            first[parts] = a;
            second[parts] = b;
            parts++;
            return true;
        }

        boolean readFrom(Tape tape, House house) {
            clear();
            tape.beginReading(MOST_SENTENCE);
            if (!readCond(tape, house, 1)) {
                return false;
            }
            return tape.token == END || tape.fail(CANT_COME);
        }

        private boolean readCond(Tape tape, House house, int within) {
            if (!readJoined(tape, house, within)) {
                return false;
            }
            for (int turn = 0; turn < MOST_ONES && tape.token == OR; turn++) {
                tape.read();
                if (!readJoined(tape, house, within)) {
                    return false;
                }
                add(OR, 0, 0);
            }
            return true;
        }

        private boolean readJoined(Tape tape, House house, int within) {
            if (!readOne(tape, house, within)) {
                return false;
            }
            for (int turn = 0; turn < MOST_ONES && tape.token == AND; turn++) {
                tape.read();
                if (!readOne(tape, house, within)) {
                    return false;
                }
                add(AND, 0, 0);
            }
            return true;
        }

        private boolean readOne(Tape tape, House house, int within) {
            int begin = tape.token;
            if (!canBeginOne(begin)) {
                return tape.fail(CANT_COME);
            }
            if (ones >= MOST_ONES || within > MOST_WITHIN) {
                return tape.fail(TOO_MANY);
            }
            ones++;
            tape.read();
            switch (begin) {
                case NOT: return readOne(tape, house, within + 1) && add(NOT, 0, 0);
                case OPEN: return readCond(tape, house, within + 1) && tape.take(CLOSE);
                case IN:
                case SEES: return add(begin, tape.takeKnown(house, PARLOURS), 0);
                case TELLS: return add(begin, tape.takeKnown(house, PERSONS), 0);
                case BLIND:
                case FERN: return add(begin, 0, 0);
                default: break;
            }
            int sign = tape.takeSign();
            return sign != NONE && add(begin, sign, tape.takeNumber(0, MOST_NUMBER));
        }

        private static boolean canBeginOne(int token) {
            return token == OPEN || token == FERN || token == NOT || token == BLIND
                    || token >= IN && token <= NUMBER;
        }

        /** The plants of which it may be said, as bits, found for all of them part by part. */
        int plantsOf(Life life) {
            int all = allBits(life.plants());
            int top = 0;
            for (int k = 0; k < parts; k++) {
                boolean joins = kind[k] == AND || kind[k] == OR;
                if (joins && top >= 2) {
                    top--;
                    open[top - 1] = kind[k] == AND ? open[top - 1] & open[top] : open[top - 1] | open[top];
                } else if (kind[k] == NOT && top >= 1) {
                    open[top - 1] = all & ~open[top - 1];
                } else if (!joins && kind[k] != NOT) {
                    open[top] = plantsThat(life, k);
                    top++;
                }
            }
            return top == 1 ? open[0] : 0;
        }

        private int plantsThat(Life life, int k) {
            int bits = 0;
            for (int p = 0; p < life.plants(); p++) {
                if (isSo(life, p, k)) {
                    bits |= 1 << p;
                }
            }
            return bits;
        }

        private boolean isSo(Life life, int p, int k) {
            switch (kind[k]) {
                case BLIND: return life.isBlind(p);
                case FERN: return life.house.fern[p] == 1;
                case IN: return life.at[p] == first[k];
                case SEES: return hasBit(life.seenBy(p), first[k]);
                case TELLS: return (life.actsShown(p) & life.actsOf(first[k])) != 0;
                case LEAVES: return compares(Integer.bitCount(life.actsShown(p)), k);
                case DUST: return compares(life.dust[p], k);
                default: return compares(p, k);
            }
        }

        private boolean compares(int measure, int k) {
            switch (first[k]) {
                case LESS: return measure < second[k];
                case EQUAL: return measure == second[k];
                default: return measure > second[k];
            }
        }
    }

    /** What follows from how all is now, nothing else being done. */
    private static final class Foresight {
        private final House house;
        private final Life life;
        int maidsPlant = NONE;
        int maidsParlour = NONE;
        int familysParlour = NONE;

        Foresight(House house, Life life) {
            this.house = house;
            this.life = life;
        }

        int dayOfProof(int i) {
            int day = NONE;
            for (int p = 0; p < life.plants(); p++) {
                int comes = life.leafDay[p][i];
                boolean proof = comes != NONE && Integer.bitCount(life.witnessesBy(i, comes)) >= house.proof;
                if (proof && comes <= LAST_DAY && (day == NONE || comes < day)) {
                    day = comes;
                }
            }
            return day;
        }

        int hiddenParlours(int days) {
            int shown = 0;
            for (int p = 0; p < life.plants(); p++) {
                if (life.nextLeafDay(p) <= life.day + days) {
                    shown |= life.seenBy(p);
                }
            }
            return allBits(house.size[PARLOURS]) & ~shown;
        }

        int daysTillDark(int l) {
            int days = 0;
            for (int p = 0; p < life.plants(); p++) {
                if (hasBit(life.seenBy(p), l)) {
                    days = Math.max(days, house.dusty - life.dust[p]);
                }
            }
            return days <= life.daysLeft() ? days : NONE;
        }

        int fittingParlours(Tape tape) {
            if (tape.length < 2 || tape.length > 2 * MOST_PAIRS || tape.length % 2 != 0) {
                return NONE;
            }
            int fitting = allBits(house.size[PARLOURS]);
            for (int k = 0; k + 1 < tape.length; k += 2) {
                int p = tape.bytes[k];
                int leaf = tape.bytes[k + 1];
                if (!house.has(PLANTS, p) || leaf > 1) {
                    return NONE;
                }
                fitting &= leaf == 1 ? life.seenBy(p) : ~life.seenBy(p);
            }
            return fitting;
        }

        int plantToAsk(int parlours) {
            int asked = NONE;
            int least = MOST_PARLOURS + 1;
            for (int p = 0; p < life.plants(); p++) {
                int seen = Integer.bitCount(parlours & life.seenBy(p));
                int unlike = Math.abs(2 * seen - Integer.bitCount(parlours));
                if (unlike < least) {
                    least = unlike;
                    asked = p;
                }
            }
            return asked;
        }

        int leastCover() {
            int all = allBits(house.size[PARLOURS]);
            int least = all;
            for (int bits = 0; bits < all; bits++) {
                if (Integer.bitCount(bits) < Integer.bitCount(least) && reachOfAll(bits) == all) {
                    least = bits;
                }
            }
            return least;
        }

        private int reachOfAll(int parlours) {
            int reach = 0;
            for (int l = 0; l < house.size[PARLOURS]; l++) {
                if (hasBit(parlours, l)) {
                    reach |= house.reach(l);
                }
            }
            return reach;
        }

        /** How many plants see the deed in the end; the caller has seen to it that there is a parlour. */
        int chooseByTurns() {
            maidsPlant = NONE;
            maidsParlour = NONE;
            familysParlour = familysAnswer(NONE, NONE);
            int most = plantsSeeing(familysParlour, NONE, NONE);
            for (int p = 0; p < life.plants(); p++) {
                for (int l = 0; l < house.size[PARLOURS]; l++) {
                    int answer = familysAnswer(p, l);
                    int seeing = plantsSeeing(answer, p, l);
                    // Where the plant stands already nothing is gained, so that is never taken.
                    if (seeing > most) {
                        most = seeing;
                        maidsPlant = p;
                        maidsParlour = l;
                        familysParlour = answer;
                    }
                }
            }
            return most;
        }

        private int familysAnswer(int carried, int whither) {
            int answer = 0;
            for (int l = 1; l < house.size[PARLOURS]; l++) {
                if (plantsSeeing(l, carried, whither) < plantsSeeing(answer, carried, whither)) {
                    answer = l;
                }
            }
            return answer;
        }

        private int plantsSeeing(int l, int carried, int whither) {
            int seeing = 0;
            for (int p = 0; p < life.plants(); p++) {
                int stand = p == carried ? whither : life.at[p];
                if (!life.isBlind(p) && hasBit(house.reach(stand), l)) {
                    seeing++;
                }
            }
            return seeing;
        }
    }

    /** The shortest way through parlours; kept till another is found. */
    private static final class Way {
        private static final int STATES = MOST_PARLOURS << MOST_PARLOURS;
        private final int[] queue = new int[STATES];
        private final int[] from = new int[STATES];
        private final boolean[] met = new boolean[STATES];
        final int[] steps = new int[STATES];
        int length;

        /**
         * A state is where one is and where one was. They are met in the order of the least ways to them, as each
         * state's neighbours are tried from the least on; so the first that has all is the way that is due.
         */
        int find(House house, int start, int needed) {
            for (int s = 0; s < STATES; s++) {
                met[s] = false;
            }
            int first = state(start, 1 << start);
            queue[0] = first;
            from[first] = NONE;
            met[first] = true;
            int ends = 1;
            for (int k = 0; k < ends && k < STATES; k++) {
                int been = queue[k] / MOST_PARLOURS;
                if ((needed & ~been) == 0) {
                    keepWay(queue[k]);
                    return length;
                }
                int sight = house.sight[queue[k] % MOST_PARLOURS];
                for (int l = 0; l < house.size[PARLOURS]; l++) {
                    int reached = state(l, been | 1 << l);
                    if (hasBit(sight, l) && !met[reached] && ends < STATES) {
                        met[reached] = true;
                        from[reached] = queue[k];
                        queue[ends] = reached;
                        ends++;
                    }
                }
            }
            return NONE;
        }

        private static int state(int l, int been) {
            return been * MOST_PARLOURS + l;
        }

        private void keepWay(int last) {
            length = 0;
            int state = last;
            for (int k = 0; k < STATES && from[state] != NONE; k++) {
                length++;
                state = from[state];
            }
            state = last;
            for (int k = length - 1; k >= 0; k--) {
                steps[k] = state % MOST_PARLOURS;
                state = from[state];
            }
        }
    }

    /** Days by draws from a seed. */
    private static final class Draws {
        private int x;

        /** The caller has seen to it that n is above 0. */
        private int draw(int n) {
            x = x * 1103515245 + 12345;
            return n > 0 ? (x >>> 8) % n : 0;
        }

        /** How many days went by. */
        int liveDays(Life life, int n, int seed) {
            x = seed;
            int gone = Math.min(n, life.daysLeft());
            for (int k = 0; k < gone; k++) {
                for (int person = 0; person < life.house.size[PERSONS]; person++) {
                    liveTurn(life, person);
                }
                life.goDays(1);
            }
            return gone;
        }

        private void liveTurn(Life life, int person) {
            int turn = draw(6);
            int parlours = life.house.size[PARLOURS];
            if (turn == 0 && life.house.size[DEEDS] > 0 && parlours > 0) {
                int d = draw(life.house.size[DEEDS]);
                drawDeed(life, person, d, draw(parlours));
            } else if (turn == 1 && life.plants() > 0) {
                life.spongeOff(draw(life.plants()));
            } else if (turn == 2 && life.plants() > 0 && parlours > 0) {
                int p = draw(life.plants());
                life.carryTo(p, draw(parlours));
            }
        }

        private static void drawDeed(Life life, int person, int d, int l) {
            if (life.whyNotDo() == 0) {
                life.doDeed(person, d, l);
            }
        }
    }
}
