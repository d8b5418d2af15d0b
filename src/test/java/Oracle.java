import java.util.ArrayDeque;
import java.util.ArrayList;
import java.util.Arrays;
import java.util.Deque;
import java.util.List;
import java.util.NoSuchElementException;
import java.util.Set;
import java.util.TreeMap;
import java.util.TreeSet;
import java.util.function.BiPredicate;

/** The document again in another way, by plain trying and living on: what a run of calls is compared with. */
final class Oracle {
    private static final Set<String> KEYS = Set.of("parlour", "sight", "plant", "fern", "person", "deed", "dusty", "proof",
            "does", "sponge", "carry", "day", "or", "and", "not", "blind", "in", "sees", "tells", "leaves", "dust", "number");

    static final class Fault extends RuntimeException {
        private static final long serialVersionUID = 1L;
        final int kind;
        final int place;

        Fault(int kind, int place) {
            this.kind = kind;
            this.place = place;
        }
    }

    static final class House {
        final List<String> parlours = new ArrayList<>();
        final List<String> plants = new ArrayList<>();
        final List<String> persons = new ArrayList<>();
        final List<String> deeds = new ArrayList<>();
        final Set<String> sights = new TreeSet<>();
        final List<Integer> home = new ArrayList<>();
        final List<Integer> slow = new ArrayList<>();
        final List<Boolean> fern = new ArrayList<>();
        int dusty = 6;
        int proof = 2;

        boolean known(String name) {
            return parlours.contains(name) || plants.contains(name) || persons.contains(name) || deeds.contains(name);
        }

        boolean inSight(int l, int m) {
            return sights.contains(l + "-" + m) || sights.contains(m + "-" + l);
        }
    }

    static final class Life {
        final House house;
        int day = 0;
        final List<int[]> acts = new ArrayList<>();
        final List<TreeMap<Integer, Integer>> leaves = new ArrayList<>();
        final int[] dust;
        final int[] at;

        Life(House house) {
            this.house = house;
            dust = new int[house.plants.size()];
            at = new int[house.plants.size()];
            for (int p = 0; p < at.length; p++) {
                at[p] = house.home.get(p);
                leaves.add(new TreeMap<>());
            }
        }

        Life(Life other) {
            house = other.house;
            day = other.day;
            acts.addAll(other.acts);
            for (TreeMap<Integer, Integer> l : other.leaves) {
                leaves.add(new TreeMap<>(l));
            }
            dust = other.dust.clone();
            at = other.at.clone();
        }

        boolean sees(int p, int l) {
            return !house.fern.get(p) && dust[p] < house.dusty && (at[p] == l || house.inSight(at[p], l));
        }

        boolean blind(int p) {
            return !sees(p, at[p]);
        }

        int seen(int p) {
            int bits = 0;
            for (int l = 0; l < house.parlours.size(); l++) {
                bits += sees(p, l) ? 1 << l : 0;
            }
            return bits;
        }

        int act(int person, int deed, int l) {
            return acts.size() == 12 ? 1 : forceAct(person, deed, l);
        }

        int forceAct(int person, int deed, int l) {
            for (int p = 0; p < at.length; p++) {
                if (sees(p, l)) {
                    int behind = day;
                    for (int leaf : leaves.get(p).values()) {
                        behind = Math.max(behind, leaf);
                    }
                    leaves.get(p).put(acts.size(), behind + house.slow.get(p));
                }
            }
            acts.add(new int[] {person, deed, l, day});
            return 0;
        }

        int sponge(int p) {
            if (dust[p] == 0) {
                return 1;
            }
            dust[p] = 0;
            return 0;
        }

        int carry(int p, int l) {
            if (at[p] == l) {
                return 1;
            }
            at[p] = l;
            return 0;
        }

        boolean goDay() {
            if (day == 400) {
                return false;
            }
            day++;
            for (int p = 0; p < dust.length; p++) {
                dust[p] = Math.min(99, dust[p] + 1);
            }
            return true;
        }

        boolean come(int p, int i) {
            return leaves.get(p).containsKey(i) && leaves.get(p).get(i) <= day;
        }

        int come(int p) {
            int n = 0;
            for (int i = 0; i < acts.size(); i++) {
                n += come(p, i) ? 1 : 0;
            }
            return n;
        }

        boolean proved(int i) {
            int n = 0;
            for (int p = 0; p < at.length; p++) {
                n += come(p, i) ? 1 : 0;
            }
            return n >= house.proof;
        }

        int provedBits() {
            int bits = 0;
            for (int i = 0; i < acts.size(); i++) {
                bits += proved(i) ? 1 << i : 0;
            }
            return bits;
        }
    }

    static final class Token {
        final String text;
        final int start;

        Token(String text, int start) {
            this.text = text;
            this.start = start;
        }

        boolean isName() {
            return text.matches("[a-z]{1,7}") && !KEYS.contains(text);
        }

        boolean isNumber() {
            return text.matches("[0-9]{1,3}");
        }

        boolean is(String other) {
            return text.equals(other);
        }
    }

    private String tape = "";
    private House house = new House();
    private Life life = new Life(house);
    private BiPredicate<Life, Integer> sentence = null;
    private Deque<Life> past = new ArrayDeque<>();
    private final Object[][] images = new Object[2][];
    private int faultKind = 0;
    private int asked = -1;
    private int covering = -1;
    private List<Integer> way = new ArrayList<>();
    private int[] chosen = {-1, -1, -1};
    private String card = "";
    private int[] told = {-1, -1, -1, -1};
    private int drawX;
    private List<Token> tokens = new ArrayList<>();
    private int at;
    private int ones;

    // ---- the tape and its tokens

    int feed(int... numbers) {
        if (tape.length() > 920) {
            return -1;
        }
        StringBuilder more = new StringBuilder(tape);
        for (int n : numbers) {
            for (byte b : java.nio.ByteBuffer.allocate(4).putInt(n).array()) {
                more.append((char) (b & 255));
            }
        }
        tape = more.toString();
        return tape.length();
    }

    int end(int n) {
        if (n < 0 || n > tape.length()) {
            return 0;
        }
        tape = tape.substring(0, n);
        return 1;
    }

    private void split(int most) {
        tokens = new ArrayList<>();
        at = 0;
        java.util.regex.Matcher m = java.util.regex.Pattern.compile("[a-z0-9]+|[^ \n]").matcher(tape);
        while (m.find() && m.start() < most) {
            tokens.add(new Token(m.group(), m.start()));
        }
        // The end is a token without a text, what is beyond the most bytes one that is never due.
        tokens.add(tape.length() > most ? new Token("?", most) : new Token("", tape.length()));
        tape = "";
    }

    private Token look() {
        return tokens.get(at);
    }

    private Token next(boolean can) {
        if (!can) {
            throw new Fault(1, look().start);
        }
        return tokens.get(at++);
    }

    private Token word(String text) {
        return next(look().is(text));
    }

    private int number(int least, int most) {
        Token t = next(look().isNumber());
        int n = Integer.parseInt(t.text);
        if (n < least || n > most) {
            throw new Fault(2, t.start);
        }
        return n;
    }

    private int known(List<String> sort) {
        Token t = next(look().isName());
        if (!sort.contains(t.text)) {
            throw new Fault(3, t.start);
        }
        return sort.indexOf(t.text);
    }

    // ---- texts

    int house() {
        try {
            split(900);
            House h = new House();
            int lines = 0;
            Set<String> once = new TreeSet<>();
            while (!look().is("")) {
                houseLine(h, once);
                word(";");
                lines++;
            }
            house = h;
            life = new Life(h);
            past.clear();
            sentence = null;
            faultKind = 0;
            return lines;
        } catch (Fault f) {
            faultKind = f.kind;
            return -1 - f.place;
        }
    }

    private void houseLine(House h, Set<String> once) {
        Token t = next(Set.of("parlour", "sight", "plant", "person", "deed", "dusty", "proof").contains(look().text));
        switch (t.text) {
            case "parlour": newName(h, h.parlours, 5, t); break;
            case "person": newName(h, h.persons, 4, t); break;
            case "deed": newName(h, h.deeds, 5, t); break;
            case "plant":
                newName(h, h.plants, 6, t);
                h.home.add(known(h.parlours));
                h.slow.add(number(1, 9));
                h.fern.add(look().is("fern"));
                at += look().is("fern") ? 1 : 0;
                break;
            case "sight":
                int l = known(h.parlours);
                Token second = look();
                int m = known(h.parlours);
                if (l == m || h.inSight(l, m)) {
                    throw new Fault(3, second.start);
                }
                h.sights.add(l + "-" + m);
                break;
            default:
                if (!once.add(t.text)) {
                    throw new Fault(3, t.start);
                }
                int n = number(1, t.is("dusty") ? 60 : 6);
                h.dusty = t.is("dusty") ? n : h.dusty;
                h.proof = t.is("proof") ? n : h.proof;
        }
    }

    private void newName(House h, List<String> sort, int most, Token first) {
        if (sort.size() == most) {
            throw new Fault(4, first.start);
        }
        Token t = next(look().isName());
        if (h.known(t.text)) {
            throw new Fault(3, t.start);
        }
        sort.add(t.text);
    }

    int book(int lives) {
        if (lives < 0 || lives > 1) {
            return -1000;
        }
        List<Object[]> lines = new ArrayList<>();
        try {
            split(400);
            while (!look().is("")) {
                lines.add(bookLine(lines.size()));
                word(";");
            }
            faultKind = 0;
        } catch (Fault f) {
            faultKind = f.kind;
            return -2 - f.place;
        }
        Life lived = new Life(life);
        int why = 0;
        int right = 0;
        while (right < lines.size() && (why = live(lived, lines.get(right))) == 0) {
            right++;
        }
        told = new int[] {why, right, lived.day, lived.provedBits()};
        if (lives == 1 && right > 0) {
            keep();
            life = lived;
        }
        return why == 0 ? -1 : right;
    }

    private Object[] bookLine(int before) {
        Token t = look();
        boolean key = t.is("sponge") || t.is("carry") || t.is("day");
        next(key || t.isName());
        if (!key && !house.persons.contains(t.text)) {
            throw new Fault(3, t.start);
        }
        if (before == 40) {
            throw new Fault(4, t.start);
        }
        switch (t.text) {
            case "sponge": return new Object[] {"sponge", known(house.plants)};
            case "carry": return new Object[] {"carry", known(house.plants), known(house.parlours)};
            case "day": return new Object[] {"day", number(1, 60)};
            default:
                word("does");
                return new Object[] {"does", house.persons.indexOf(t.text), known(house.deeds), known(house.parlours)};
        }
    }

    private static int live(Life lived, Object[] line) {
        int a = (Integer) line[1];
        switch ((String) line[0]) {
            case "does": return lived.act(a, (Integer) line[2], (Integer) line[3]);
            case "sponge": return lived.sponge(a) == 0 ? 0 : 11;
            case "carry": return lived.carry(a, (Integer) line[2]) == 0 ? 0 : 21;
            default:
                if (lived.day + a > 400) {
                    return 31;
                }
                for (int k = 0; k < a; k++) {
                    lived.goDay();
                }
                return 0;
        }
    }

    int sentence() {
        try {
            split(200);
            ones = 0;
            BiPredicate<Life, Integer> read = cond(1);
            if (!look().is("")) {
                throw new Fault(1, look().start);
            }
            sentence = read;
            faultKind = 0;
            return ones;
        } catch (Fault f) {
            faultKind = f.kind;
            return -1 - f.place;
        }
    }

    private BiPredicate<Life, Integer> cond(int depth) {
        BiPredicate<Life, Integer> c = joined(depth);
        while (look().is("or")) {
            at++;
            c = c.or(joined(depth));
        }
        return c;
    }

    private BiPredicate<Life, Integer> joined(int depth) {
        BiPredicate<Life, Integer> c = one(depth);
        while (look().is("and")) {
            at++;
            c = c.and(one(depth));
        }
        return c;
    }

    private BiPredicate<Life, Integer> one(int depth) {
        Token t = next(Set.of("not", "(", "blind", "fern", "in", "sees", "tells", "leaves", "dust", "number").contains(look().text));
        ones++;
        if (ones > 20 || depth > 8) {
            throw new Fault(4, t.start);
        }
        switch (t.text) {
            case "not": return one(depth + 1).negate();
            case "(": {
                BiPredicate<Life, Integer> c = cond(depth + 1);
                word(")");
                return c;
            }
            case "blind": return (l, p) -> l.blind(p);
            case "fern": return (l, p) -> l.house.fern.get(p);
            case "in": {
                int parlour = known(house.parlours);
                return (l, p) -> l.at[p] == parlour;
            }
            case "sees": {
                int parlour = known(house.parlours);
                return (l, p) -> l.sees(p, parlour);
            }
            case "tells": {
                int person = known(house.persons);
                return (l, p) -> {
                    for (int i = 0; i < l.acts.size(); i++) {
                        if (l.acts.get(i)[0] == person && l.come(p, i)) {
                            return true;
                        }
                    }
                    return false;
                };
            }
            default: {
                String sign = next(look().text.matches("[<=>]")).text;
                int n = number(0, 999);
                return (l, p) -> {
                    int v = t.is("leaves") ? l.come(p) : t.is("dust") ? l.dust[p] : p;
                    return sign.equals("<") ? v < n : sign.equals("=") ? v == n : v > n;
                };
            }
        }
    }

    int fault() {
        return faultKind;
    }

    int told(int what) {
        return what < 0 || what > 3 ? -1 : told[what];
    }

    int said(int k) {
        if (sentence == null || k < -1) {
            return -1;
        }
        List<Integer> plants = new ArrayList<>();
        for (int p = 0; p < house.plants.size(); p++) {
            if (sentence.test(life, p)) {
                plants.add(p);
            }
        }
        return k == -1 ? plants.size() : k < plants.size() ? plants.get(k) : -1;
    }

    // ---- what is so

    private static boolean in(int n, List<?> list) {
        return n >= 0 && n < list.size();
    }

    int plant(int p, int what) {
        if (!in(p, house.plants) || what < 0 || what > 7) {
            throw new NoSuchElementException();
        }
        int shown = 0;
        for (int i = 0; i < life.acts.size(); i++) {
            shown += life.come(p, i) ? 1 << i : 0;
        }
        int[] all = {life.at[p], house.slow.get(p), house.fern.get(p) ? 1 : 0, life.dust[p], life.seen(p), life.come(p),
            shown, life.leaves.get(p).size() - life.come(p)};
        return all[what];
    }

    int act(int i, int what) {
        if (!in(i, life.acts) || what < 0 || what > 6) {
            throw new NoSuchElementException();
        }
        if (what < 4) {
            return life.acts.get(i)[what];
        }
        int come = 0;
        int all = 0;
        for (int p = 0; p < house.plants.size(); p++) {
            come += life.come(p, i) ? 1 << p : 0;
            all += life.leaves.get(p).containsKey(i) ? 1 << p : 0;
        }
        return what == 4 ? come : what == 5 ? all - come : life.proved(i) ? 1 : 0;
    }

    int comes(int p, int i) {
        return in(p, house.plants) ? life.leaves.get(p).getOrDefault(i, -1) : -1;
    }

    int sights(int l) {
        if (!in(l, house.parlours)) {
            return -1;
        }
        int bits = 0;
        for (int m = 0; m < house.parlours.size(); m++) {
            bits += house.inSight(l, m) ? 1 << m : 0;
        }
        return bits;
    }

    int now(int what) {
        int seeing = 0;
        int dusty = 0;
        int come = 0;
        int due = 0;
        int seen = 0;
        for (int p = 0; p < house.plants.size(); p++) {
            seeing += life.blind(p) ? 0 : 1 << p;
            dusty += life.dust[p] > 0 ? 1 << p : 0;
            come += life.come(p);
            due += life.leaves.get(p).size() - life.come(p);
            seen |= life.seen(p);
        }
        int[] all = {life.day, life.acts.size(), life.provedBits(), seeing, dusty, come, due,
            (1 << house.parlours.size()) - 1 - seen};
        return what < 0 || what > 7 ? -1 : all[what];
    }

    int count(int what) {
        int[] all = {house.parlours.size(), house.plants.size(), house.persons.size(), house.deeds.size(), house.dusty,
            house.proof, tape.length()};
        return what < 0 || what > 6 ? -1 : all[what];
    }

    int elder() {
        int best = -1;
        for (int p = 0; p < house.plants.size(); p++) {
            if (life.come(p) > (best < 0 ? 0 : life.come(best))) {
                best = p;
            }
        }
        return best;
    }

    int card(int p) {
        if (!in(p, house.plants)) {
            return -1;
        }
        card = house.plants.get(p)
            + (house.fern.get(p) ? " is a fern" : " has " + life.come(p) + (life.blind(p) ? " blind" : ""));
        return card.length();
    }

    int byteAt(int i) {
        return i >= 0 && i < card.length() ? card.charAt(i) : -1;
    }

    int guilty(int person, int d) {
        if (!in(person, house.persons) || !in(d, house.deeds)) {
            return -1;
        }
        for (int i = 0; i < life.acts.size(); i++) {
            if (life.acts.get(i)[0] == person && life.acts.get(i)[1] == d && life.proved(i)) {
                return 1;
            }
        }
        return 0;
    }

    // ---- what is done

    private void keep() {
        past.push(new Life(life));
        if (past.size() > 8) {
            past.removeLast();
        }
    }

    private int tried(java.util.function.ToIntFunction<Life> thing) {
        Life before = new Life(life);
        int why = thing.applyAsInt(life);
        if (why == 0) {
            past.push(before);
            if (past.size() > 8) {
                past.removeLast();
            }
        }
        return why;
    }

    int does(int person, int d, int l) {
        if (!in(person, house.persons) || !in(d, house.deeds) || !in(l, house.parlours)) {
            return -1;
        }
        return tried(x -> x.act(person, d, l));
    }

    int sponge(int p) {
        return in(p, house.plants) ? tried(x -> x.sponge(p)) : -1;
    }

    int carry(int p, int l) {
        return in(p, house.plants) && in(l, house.parlours) ? tried(x -> x.carry(p, l)) : -1;
    }

    int days(int n) {
        if (n < 1 || n > 60) {
            return -1;
        }
        int[] gone = {0};
        tried(x -> {
            while (gone[0] < n && x.goDay()) {
                gone[0]++;
            }
            return gone[0] > 0 ? 0 : 1;
        });
        return gone[0];
    }

    int undo() {
        if (past.isEmpty()) {
            return -1;
        }
        life = past.pop();
        return past.size();
    }

    private int draw(int n) {
        drawX = drawX * 1103515245 + 12345;
        return (drawX >>> 8) % n;
    }

    private int drawDays(Life x, int n, int seed) {
        drawX = seed;
        int gone = 0;
        while (gone < n && x.day < 400) {
            for (int person = 0; person < house.persons.size(); person++) {
                int turn = draw(6);
                if (turn == 0 && !house.deeds.isEmpty() && !house.parlours.isEmpty()) {
                    int d = draw(house.deeds.size());
                    int l = draw(house.parlours.size());
                    x.act(person, d, l);
                }
                if (turn == 1 && !house.plants.isEmpty()) {
                    x.sponge(draw(house.plants.size()));
                }
                if (turn == 2 && !house.plants.isEmpty()) {
                    int p = draw(house.plants.size());
                    x.carry(p, draw(house.parlours.size()));
                }
            }
            x.goDay();
            gone++;
        }
        return gone;
    }

    int drawn(int n, int seed) {
        if (n < 1 || n > 60) {
            return -1;
        }
        int[] gone = {0};
        tried(x -> {
            gone[0] = drawDays(x, n, seed);
            return gone[0] > 0 ? 0 : 1;
        });
        return gone[0];
    }

    int odds(int person, int n, int seed) {
        if (!in(person, house.persons) || n < 1 || n > 30) {
            return -1;
        }
        int proved = 0;
        for (int k = 0; k < n; k++) {
            Life x = new Life(life);
            drawDays(x, 20, seed + k);
            boolean some = false;
            for (int i = 0; i < x.acts.size(); i++) {
                some |= x.acts.get(i)[0] == person && x.proved(i);
            }
            proved += some ? 1 : 0;
        }
        return proved;
    }

    int image(int k) {
        if (k < 0 || k > 1) {
            return 0;
        }
        images[k] = new Object[] {house, new Life(life), sentence};
        return 1;
    }

    @SuppressWarnings("unchecked")
    int restore(int k) {
        if (k < 0 || k > 1 || images[k] == null) {
            return 0;
        }
        house = (House) images[k][0];
        life = new Life((Life) images[k][1]);
        sentence = (BiPredicate<Life, Integer>) images[k][2];
        past.clear();
        return 1;
    }

    // ---- what would be, by living on

    int proves(int i) {
        if (!in(i, life.acts)) {
            return -1;
        }
        Life x = new Life(life);
        for (x.day = 0; x.day <= 400; x.day++) {
            if (x.proved(i)) {
                return x.day;
            }
        }
        return -1;
    }

    int hides(int k) {
        if (k < 0 || k > 60) {
            return -1;
        }
        int bits = 0;
        for (int l = 0; l < house.parlours.size(); l++) {
            Life x = new Life(life);
            x.forceAct(0, 0, l);
            x.day += k;
            boolean shown = false;
            for (int p = 0; p < house.plants.size(); p++) {
                shown |= x.come(p, x.acts.size() - 1);
            }
            bits += shown ? 0 : 1 << l;
        }
        return bits;
    }

    int dark(int l) {
        if (!in(l, house.parlours)) {
            return -1;
        }
        Life x = new Life(life);
        int gone = 0;
        do {
            boolean seen = false;
            for (int p = 0; p < house.plants.size(); p++) {
                seen |= x.sees(p, l);
            }
            if (!seen) {
                return gone;
            }
            gone++;
        } while (x.goDay());
        return -1;
    }

    int fits() {
        String pairs = tape;
        tape = "";
        if (pairs.isEmpty() || pairs.length() % 2 == 1 || pairs.length() > 12) {
            return -1;
        }
        int bits = 0;
        for (int k = 0; k < pairs.length(); k += 2) {
            if (pairs.charAt(k) >= house.plants.size() || pairs.charAt(k + 1) > 1) {
                return -1;
            }
        }
        for (int l = 0; l < house.parlours.size(); l++) {
            boolean fits = true;
            for (int k = 0; k < pairs.length(); k += 2) {
                fits &= life.sees(pairs.charAt(k), l) == (pairs.charAt(k + 1) == 1);
            }
            bits += fits ? 1 << l : 0;
        }
        if (bits > 0) {
            double best = 99;
            for (int p = 0; p < house.plants.size(); p++) {
                double off = Math.abs(Integer.bitCount(bits & life.seen(p)) - Integer.bitCount(bits) / 2.0);
                if (off < best) {
                    best = off;
                    asked = p;
                }
            }
        }
        return bits;
    }

    int ask() {
        return asked;
    }

    int cover() {
        int n = house.parlours.size();
        for (int size = 0; ; size++) {
            for (int bits = 0; bits < 1 << n; bits++) {
                int seen = 0;
                for (int l = 0; l < n; l++) {
                    seen |= (bits >> l & 1) == 1 ? 1 << l | sights(l) : 0;
                }
                if (Integer.bitCount(bits) == size && seen == (1 << n) - 1) {
                    covering = bits;
                    return size;
                }
            }
        }
    }

    int covering() {
        return covering;
    }

    private boolean walk(int l, int been, int needed, int steps, List<Integer> so) {
        if (steps == 0) {
            return (needed & ~been) == 0;
        }
        for (int m = 0; m < house.parlours.size(); m++) {
            if (house.inSight(l, m)) {
                so.add(m);
                if (walk(m, been | 1 << m, needed, steps - 1, so)) {
                    return true;
                }
                so.remove(so.size() - 1);
            }
        }
        return false;
    }

    int round(int l) {
        if (!in(l, house.parlours)) {
            return -1;
        }
        int needed = 0;
        for (int p = 0; p < house.plants.size(); p++) {
            needed |= life.dust[p] > 0 ? 1 << life.at[p] : 0;
        }
        int reach = 1 << l;
        for (int turn = 0; turn < 5; turn++) {
            for (int m = 0; m < house.parlours.size(); m++) {
                reach |= (reach >> m & 1) == 1 ? sights(m) : 0;
            }
        }
        if ((needed & ~reach) != 0) {
            return -1;
        }
        // No way of five parlours needs more than eight steps.
        for (int steps = 0; ; steps++) {
            List<Integer> so = new ArrayList<>();
            if (walk(l, 1 << l, needed, steps, so)) {
                way = so;
                return steps;
            }
        }
    }

    int roundAt(int k) {
        return in(k, way) ? way.get(k) : -1;
    }

    int choice() {
        if (house.parlours.isEmpty()) {
            return -1;
        }
        int best = -1;
        for (int p = -1; p < house.plants.size(); p++) {
            for (int l = 0; l < house.parlours.size(); l++) {
                Life x = new Life(life);
                if (p >= 0 && x.carry(p, l) != 0) {
                    continue;
                }
                int[] seeing = new int[house.parlours.size()];
                for (int m = 0; m < seeing.length; m++) {
                    for (int q = 0; q < house.plants.size(); q++) {
                        seeing[m] += x.sees(q, m) ? 1 : 0;
                    }
                }
                int least = Arrays.stream(seeing).min().getAsInt();
                int m = 0;
                while (seeing[m] != least) {
                    m++;
                }
                if (least > best) {
                    best = least;
                    chosen = new int[] {p, p < 0 ? -1 : l, m};
                }
            }
        }
        return best;
    }

    int chosen(int what) {
        return what < 0 || what > 2 ? -1 : chosen[what];
    }
}
