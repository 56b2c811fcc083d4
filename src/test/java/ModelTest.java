import java.util.ArrayList;
import java.util.Arrays;
import java.util.List;
import java.util.Random;
import java.util.regex.Matcher;
import java.util.regex.Pattern;

/** Long runs of chance calls (always the same ones), each answer held against a model that reads the document word by word. */
public final class ModelTest {
    private static final int RUNS = 1500;
    private static final int CALLS = 512;
    private static final String[] CALL_NAMES = {
        "person", "of", "does", "joy", "turn", "as", "present", "presentOf", "paper", "wrap", "unwrap", "set", "days",
        "now", "on", "joyOn", "found", "comes", "best", "give", "kind", "least", "order", "happiest", "enough", "feed",
        "wipe", "town", "sheet", "write", "copy", "lays", "book", "read", "image", "undo", "tear", "count", "status"};

    public static void main(String[] args) {
        int wrong = 0;
        for (int run = 0; run < RUNS && wrong < 5; run++) {
            wrong += oneRun(run) ? 0 : 1;
        }
        System.out.println(wrong == 0 ? RUNS + " runs go as the model" : "runs go otherwise than the model");
        if (wrong != 0) {
            System.exit(1);
        }
    }

    private static boolean oneRun(int seed) {
        Random chance = new Random(seed);
        WrapGifts x = new WrapGifts();
        Model m = new Model();
        StringBuilder told = new StringBuilder();
        List<long[]> queue = new ArrayList<>();
        for (int k = 0; k < CALLS; k++) {
            if (queue.isEmpty()) {
                plan(chance, queue, m);
            }
            long[] call = queue.remove(0);
            long due = m.answer(call);
            long got;
            try {
                got = ask(x, call);
            } catch (RuntimeException e) {
                System.out.println("seed " + seed + told + "\n  " + tell(call) + " threw " + e);
                return false;
            }
            told.append("\n  ").append(tell(call)).append(" -> ").append(got);
            if (got != due) {
                System.out.println("seed " + seed + told + ", due is " + due);
                return false;
            }
        }
        return true;
    }

    private static String tell(long[] call) {
        return CALL_NAMES[(int) call[0]] + Arrays.toString(Arrays.copyOfRange(call, 1, call.length));
    }

    private static void plan(Random chance, List<long[]> queue, Model m) {
        int what = chance.nextInt(100);
        if (what < 6) {
            queue.add(new long[] {26});
            feed(text(chance, m), queue);
            queue.add(new long[] {27});
        } else if (what < 14 && m.people.size() < 4) {
            queue.add(new long[] {0, chance.nextInt(6)});
        } else if (what < 18 && m.people.size() > 0) {
            queue.add(new long[] {6, chance.nextInt(m.people.size()), chance.nextInt(100)});
        } else if (what < 30 && m.gifts.size() > 0) {
            queue.add(new long[] {9, chance.nextInt(m.gifts.size()), chance.nextInt(4)});
        } else if (what < 33 && m.gifts.size() > 0) {
            // A book that is read again: some pair has to fit.
            int s = chance.nextInt(4);
            int p = chance.nextInt(m.people.size());
            queue.add(new long[] {28, s, chance.nextInt(4) == 0 ? 8 : 16, chance.nextInt(12)});
            queue.add(new long[] {32, s, p});
            queue.add(new long[] {33, s, p, chance.nextInt(m.gifts.size())});
        } else {
            queue.add(anyCall(chance));
        }
    }

    private static final int[] COUNTS = {1, 2, 3, 2, 2, 2, 2, 2, 2, 2, 1, 3, 1, 1, 3, 2, 1, 2, 2, 2, 2, 4, 2, 1, 3, 2, 0, 0,
        3, 3, 5, 2, 2, 3, 0, 0, 0, 1, 1};

    private static long[] anyCall(Random chance) {
        int name = chance.nextInt(CALL_NAMES.length);
        if ((name == 34 || name == 35 || name == 33) && chance.nextInt(3) != 0) {
            name = 14;
        }
        long[] call = new long[COUNTS[name] + 1];
        call[0] = name;
        for (int i = 1; i < call.length; i++) {
            call[i] = number(chance, 4);
        }
        if (name == 3) {
            call[2] = chance.nextInt(4) == 0 ? 9980 + chance.nextInt(22) : number(chance, 40);
        }
        if (name == 12) {
            call[1] = chance.nextInt(3) == 0 ? number(chance, 62) : chance.nextInt(3);
        }
        if (name == 14 || name == 15 || (name >= 18 && name <= 20) || name == 22) {
            call[2] = number(chance, name == 22 ? 12 : 33);
        }
        if (name == 21) {
            call[3] = number(chance, 32);
            call[4] = number(chance, 100);
        }
        if (name == 23) {
            call[1] = number(chance, 62);
        }
        if (name == 24) {
            call[3] = number(chance, 32);
        }
        if (name == 28) {
            call[2] = new int[] {0, 8, 16, 64, 8, 16, 64, 32}[chance.nextInt(8)];
            call[3] = number(chance, 42);
        }
        if (name == 29 && chance.nextBoolean()) {
            call[3] = chance.nextBoolean() ? chance.nextLong() : chance.nextInt(5);
        }
        if (name == 38) {
            call[1] = chance.nextInt(10) - 2;
        }
        return call;
    }

    private static int number(Random chance, int below) {
        switch (chance.nextInt(40)) {
            case 0: return -1;
            case 1: return Integer.MIN_VALUE;
            case 2: return Integer.MAX_VALUE;
            case 3: return chance.nextInt();
            case 4: return chance.nextInt(200) - 50;
            default: return chance.nextInt(below);
        }
    }

    private static void feed(String text, List<long[]> queue) {
        for (int i = 0; i < text.length(); i += 4) {
            int n = Math.min(4, text.length() - i);
            int bytes = 0;
            for (int k = 0; k < n; k++) {
                bytes = bytes << 8 | text.charAt(i + k);
            }
            queue.add(new long[] {25, bytes, n});
        }
    }

    private static String text(Random chance, Model m) {
        String[] kinds = Model.KIND_NAMES;
        String[] papers = Model.PAPER_NAMES;
        StringBuilder text = new StringBuilder();
        int items = 1 + chance.nextInt(3);
        for (int i = 0; i < items; i++) {
            if (i > 0) {
                text.append(chance.nextBoolean() ? ";" : " ; ");
            }
            if (m.people.isEmpty() && i == 0 || chance.nextInt(4) == 0) {
                text.append(kinds[chance.nextInt(6)]);
                continue;
            }
            text.append("present ").append(chance.nextInt(Math.max(1, m.people.size())));
            if (chance.nextBoolean()) {
                text.append(" thing ").append(chance.nextInt(20) == 0 ? 100 : chance.nextInt(100));
            }
            int layers = chance.nextInt(chance.nextInt(9) == 0 ? 8 : 6);
            for (int k = 0; k < layers; k++) {
                text.append(' ').append(papers[chance.nextInt(4)]);
            }
        }
        if (chance.nextInt(3) == 0 && text.length() > 0) {
            String signs = " ;a0z9{/`:A\t\n" + (char) 0 + (char) 255;
            text.setCharAt(chance.nextInt(text.length()), signs.charAt(chance.nextInt(signs.length())));
        }
        if (chance.nextInt(6) == 0) {
            text.setLength(chance.nextInt(text.length() + 1));
        }
        return text.toString();
    }

    private static long ask(WrapGifts x, long[] c) {
        int a = c.length > 1 ? (int) c[1] : 0;
        int b = c.length > 2 ? (int) c[2] : 0;
        int d = c.length > 3 ? (int) c[3] : 0;
        int e = c.length > 4 ? (int) c[4] : 0;
        switch ((int) c[0]) {
            case 0: return x.person(a);
            case 1: return x.of(a, b);
            case 2: return x.does(a, b, d);
            case 3: return x.joy(a, b);
            case 4: return x.turn(a, b);
            case 5: return x.as(a, b);
            case 6: return x.present(a, b);
            case 7: return x.presentOf(a, b);
            case 8: return x.paper(a, b);
            case 9: return x.wrap(a, b);
            case 10: return x.unwrap(a);
            case 11: return x.set(a, b, d);
            case 12: return x.days(a);
            case 13: return x.now(a);
            case 14: return x.on(a, b, d);
            case 15: return x.joyOn(a, b);
            case 16: return x.found(a);
            case 17: return x.comes(a, b);
            case 18: return x.best(a, b);
            case 19: return x.give(a, b);
            case 20: return x.kind(a, b);
            case 21: return x.least(a, b, d, e);
            case 22: return x.order(a, b);
            case 23: return x.happiest(a);
            case 24: return x.enough(a, b, d);
            case 25: return x.feed(a, b);
            case 26: return x.wipe();
            case 27: return x.town();
            case 28: return x.sheet(a, b, d);
            case 29: return x.write(a, b, c[3]);
            case 30: return x.copy(a, b, d, e, (int) c[5]);
            case 31: return x.lays(a, b);
            case 32: return x.book(a, b);
            case 33: return x.read(a, b, d);
            case 34: return x.image();
            case 35: return x.undo();
            case 36: return x.tear();
            case 37: return x.count(a);
            default: return x.status(a);
        }
    }

    /** A finding, told by its place in the document's list. */
    private static final class Finding extends RuntimeException {
        private static final long serialVersionUID = 1L;
        final int which;

        Finding(int which) {
            super(null, null, false, false);
            this.which = which;
        }
    }

    private static final class Gift {
        List<Integer> papers = new ArrayList<>();
        int thing;
        int with;
        boolean found;

        Gift copy() {
            Gift g = new Gift();
            g.papers.addAll(papers);
            g.thing = thing;
            g.with = with;
            g.found = found;
            return g;
        }
    }

    private static final class Model {
        static final String[] KIND_NAMES = {"man", "aunt", "child", "poor", "girl", "clerk"};
        static final String[] PAPER_NAMES = {"news", "brown", "tissue", "marbled"};
        private static final int BEYOND = 0;
        private static final int FULL = 1;
        private static final int KIND = 2;
        private static final int NONE = 3;
        private static final int STATE = 4;
        private static final int MISSING = 5;
        private static final int SIZE = 6;
        private static final Pattern TOKEN = Pattern.compile(" *([a-z]+|[0-9]+|;)");

        int day;
        List<int[]> people = new ArrayList<>();
        List<Gift> gifts = new ArrayList<>();
        String tape = "";
        long[][] sheets = new long[4][];
        int[] bits = new int[4];
        int[] findings = new int[7];
        Model kept;

        Model world() {
            Model w = new Model();
            w.setWorld(this);
            return w;
        }

        void setWorld(Model other) {
            day = other.day;
            people = new ArrayList<>();
            for (int[] p : other.people) {
                people.add(p.clone());
            }
            gifts = new ArrayList<>();
            for (Gift g : other.gifts) {
                gifts.add(g.copy());
            }
        }

        static int opens(int kind, int day, int layers, int paper) {
            int[] each = {1, 0, 2, paper == 3 ? 0 : 1, layers, day % 5 == 0 ? 1 : 0};
            return Math.min(layers, each[kind]);
        }

        static int enjoys(int kind, int paper) {
            int[] each = {paper + 1, 2 * paper + 2, paper, paper == 0 ? 6 : paper + 1, 0, 2 * paper + 1};
            return each[kind];
        }

        static int struck(int kind, int t) {
            int aunt = t > 0 ? 0 : 5;
            int[] each = {t, aunt, 2 * t, t, 2 * t + 10, aunt + t / 2};
            return each[kind];
        }

        static int passes(int kind, int layers, int day) {
            int r = day % 4;
            boolean[] each = {layers >= 4, layers == 6, false, layers >= 1 && layers <= 3, false, layers >= 2};
            return each[kind] ? kind == 3 ? 0 : r : -1;
        }

        void dayGoes() {
            List<Gift> passed = new ArrayList<>();
            for (int i = 0; i < people.size(); i++) {
                for (Gift g : gifts) {
                    if (g.with == i && !g.found && !passed.contains(g)) {
                        meet(i, g, passed);
                        break;
                    }
                }
            }
            day++;
        }

        private void meet(int i, Gift g, List<Gift> passed) {
            int[] p = people.get(i);
            int paper = passes(p[0], g.papers.size(), day);
            if (paper != -1 && people.size() > 1) {
                if (g.papers.size() < 6) {
                    g.papers.add(0, paper);
                }
                g.with = (i + 1) % people.size();
                passed.add(g);
                return;
            }
            int n = g.papers.isEmpty() ? 0 : opens(p[0], day, g.papers.size(), g.papers.get(0));
            for (int k = 0; k < n; k++) {
                p[1] = Math.min(9999, p[1] + enjoys(p[0], g.papers.remove(0)));
            }
            if (g.papers.isEmpty()) {
                g.found = true;
                p[1] = Math.min(9999, p[1] + struck(p[0], g.thing));
            }
        }

        Model on(int n) {
            Model w = world();
            for (int k = 0; k < n; k++) {
                w.dayGoes();
            }
            return w;
        }

        int joyOfAll() {
            int joy = 0;
            for (int[] p : people) {
                joy += p[1];
            }
            return joy;
        }

        long answer(long[] c) {
            try {
                return act(c);
            } catch (Finding f) {
                findings[f.which]++;
                return -1000000001L - f.which;
            }
        }

        private static void refuse(boolean wrong, int which) {
            if (wrong) {
                throw new Finding(which);
            }
        }

        private static void range(long v, long least, long most) {
            refuse(v < least || v > most, BEYOND);
        }

        private int[] one(int person) {
            range(person, 0, people.size() - 1);
            return people.get(person);
        }

        private Gift gift(int present) {
            range(present, 0, gifts.size() - 1);
            return gifts.get(present);
        }

        private long act(long[] c) {
            int a = c.length > 1 ? (int) c[1] : 0;
            int b = c.length > 2 ? (int) c[2] : 0;
            int d = c.length > 3 ? (int) c[3] : 0;
            int e = c.length > 4 ? (int) c[4] : 0;
            switch (CALL_NAMES[(int) c[0]]) {
                case "person": return person(a);
                case "of": return of(one(a), a, b);
                case "does": return does(one(a), b, d);
                case "joy": {
                    int[] p = one(a);
                    range(b, 0, 9999);
                    int was = p[1];
                    p[1] = b;
                    return was;
                }
                case "turn": {
                    int[] p = one(a);
                    range(b, 0, 5);
                    int was = p[0];
                    p[0] = b;
                    return was;
                }
                case "as": return as(one(a), b);
                case "present": return present(a, b);
                case "presentOf": return presentOf(gift(a), b);
                case "paper": {
                    Gift g = gift(a);
                    refuse(b < 0, BEYOND);
                    refuse(b >= g.papers.size(), NONE);
                    return g.papers.get(b);
                }
                case "wrap": {
                    Gift g = gift(a);
                    range(b, 0, 3);
                    refuse(g.papers.size() == 6, FULL);
                    refuse(g.found, STATE);
                    g.papers.add(0, b);
                    return g.papers.size();
                }
                case "unwrap": {
                    Gift g = gift(a);
                    refuse(g.papers.isEmpty(), NONE);
                    return g.papers.remove(0);
                }
                case "set": return set(gift(a), b, d);
                case "days": return days(a);
                case "now": return now(a);
                case "on": {
                    gift(a);
                    range(b, 0, 60);
                    refuse(d != 0 && d != 2 && d != 3, BEYOND);
                    return presentOf(on(b).gifts.get(a), d);
                }
                case "joyOn": {
                    one(a);
                    range(b, 0, 60);
                    return on(b).people.get(a)[1];
                }
                case "found": return firstDay(gift(a), a, -1);
                case "comes": {
                    Gift g = gift(a);
                    one(b);
                    return firstDay(g, a, b);
                }
                default: return act2(c, a, b, d, e);
            }
        }

        private long act2(long[] c, int a, int b, int d, int e) {
            switch (CALL_NAMES[(int) c[0]]) {
                case "best": return best(gift(a), a, b);
                case "give": return give(gift(a), a, b);
                case "kind": return kind(a, b);
                case "least": return least(a, b, d, e);
                case "order": return order(gift(a), a, b);
                case "happiest": return happiest(a);
                case "enough": return enough(gift(a), a, b, d);
                case "feed": return feed(a, b);
                case "wipe": {
                    int had = tape.length();
                    tape = "";
                    return had;
                }
                case "town": return town();
                case "sheet": return sheet(a, b, d);
                case "write": {
                    row(a);
                    range(b, 0, sheets[a].length - 1);
                    long was = sheets[a][b];
                    sheets[a][b] = cut(a, c[3]);
                    return was;
                }
                case "copy": return copy(a, b, d, e, (int) c[5]);
                case "lays": return lays(row(a), b);
                case "book": return book(row(a), a, b);
                case "read": return read(row(a), b, d);
                case "image": kept = world(); return 1;
                case "undo": {
                    refuse(kept == null, NONE);
                    setWorld(kept);
                    return people.size();
                }
                case "tear": {
                    int was = kept == null ? 0 : 1;
                    kept = null;
                    return was;
                }
                case "count": {
                    range(a, 0, 3);
                    return new int[] {people.size(), gifts.size(), tape.length(), Long.bitCount(set(true))}[a];
                }
                default: {
                    range(a, -1, 6);
                    return a == -1 ? Arrays.stream(findings).sum() : findings[a];
                }
            }
        }

        private long person(int kind) {
            range(kind, 0, 5);
            refuse(people.size() == 6, FULL);
            people.add(new int[] {kind, 0});
            return people.size() - 1;
        }

        private long of(int[] p, int person, int what) {
            range(what, 0, 3);
            if (what < 2) {
                return p[what];
            }
            int bits = 0;
            for (int g = 0; g < gifts.size(); g++) {
                if (gifts.get(g).with == person && (what == 2 || !gifts.get(g).found)) {
                    bits += 1 << g;
                }
            }
            return bits;
        }

        private long does(int[] p, int what, int present) {
            range(what, 0, 3);
            Gift g = gift(present);
            refuse(what < 2 && g.papers.isEmpty(), NONE);
            switch (what) {
                case 0: return opens(p[0], day, g.papers.size(), g.papers.get(0));
                case 1: return enjoys(p[0], g.papers.get(0));
                case 2: return struck(p[0], g.thing);
                default: return 1 + passes(p[0], g.papers.size(), day);
            }
        }

        private long as(int[] p, int kind) {
            range(kind, 0, 5);
            boolean is = kind == 0 || p[0] == kind || p[0] == 4 && kind == 2 || p[0] == 5 && kind == 1;
            refuse(!is, KIND);
            return p[1];
        }

        private long present(int person, int thing) {
            one(person);
            range(thing, 0, 99);
            refuse(gifts.size() == 8, FULL);
            Gift g = new Gift();
            g.with = person;
            g.thing = thing;
            gifts.add(g);
            return gifts.size() - 1;
        }

        private long presentOf(Gift g, int what) {
            range(what, 0, 3);
            return new int[] {g.papers.size(), g.thing, g.with, g.found ? 1 : 0}[what];
        }

        private long set(Gift g, int what, int v) {
            range(what, 1, 2);
            range(v, 0, what == 1 ? 99 : people.size() - 1);
            int was = what == 1 ? g.thing : g.with;
            if (what == 1) {
                g.thing = v;
            } else {
                g.with = v;
            }
            return was;
        }

        private long set(boolean found) {
            long bits = 0;
            for (int g = 0; g < gifts.size(); g++) {
                bits |= gifts.get(g).found == found ? 1L << g : 0;
            }
            return bits;
        }

        private long days(int n) {
            range(n, 1, 60);
            refuse(day + n > 9999, STATE);
            setWorld(on(n));
            return set(false);
        }

        private long now(int what) {
            range(what, 0, 4);
            int layers = 0;
            int things = 0;
            for (Gift g : gifts) {
                layers += g.papers.size();
                things += g.found ? g.thing : 0;
            }
            return new long[] {day, joyOfAll(), set(true), layers, things}[what];
        }

        private long firstDay(Gift g, int present, int person) {
            for (int n = 0; n <= 60; n++) {
                Gift then = on(n).gifts.get(present);
                if (person == -1 ? then.found : then.with == person) {
                    return n;
                }
            }
            throw new Finding(NONE);
        }

        private long best(Gift g, int present, int n) {
            range(n, 1, 30);
            refuse(g.papers.size() == 6, FULL);
            refuse(g.found, STATE);
            int[] joy = new int[4];
            for (int p = 0; p < 4; p++) {
                Model w = world();
                w.gifts.get(present).papers.add(0, p);
                joy[p] = w.on(n).joyOfAll();
            }
            return firstOfMost(joy);
        }

        private static int firstOfMost(int[] joy) {
            int most = Arrays.stream(joy).max().getAsInt();
            for (int i = 0; i < joy.length; i++) {
                if (joy[i] == most) {
                    return i;
                }
            }
            return -1;
        }

        private long give(Gift g, int present, int n) {
            range(n, 1, 30);
            int[] joy = new int[people.size()];
            for (int p = 0; p < joy.length; p++) {
                Model w = world();
                w.gifts.get(present).with = p;
                joy[p] = w.on(n).joyOfAll();
            }
            return firstOfMost(joy);
        }

        private long kind(int person, int n) {
            one(person);
            range(n, 1, 30);
            int[] joy = new int[6];
            for (int k = 0; k < 6; k++) {
                Model w = world();
                w.people.get(person)[0] = k;
                joy[k] = w.on(n).people.get(person)[1];
            }
            return firstOfMost(joy);
        }

        private long least(int present, int person, int n, int v) {
            gift(present);
            one(person);
            range(n, 1, 30);
            range(v, 0, 9999);
            for (int t = 0; t < 100; t++) {
                Model w = world();
                w.gifts.get(present).thing = t;
                if (w.on(n).people.get(person)[1] >= v) {
                    return t;
                }
            }
            throw new Finding(NONE);
        }

        private long order(Gift g, int present, int n) {
            range(n, 1, 10);
            refuse(g.papers.isEmpty(), NONE);
            refuse(g.papers.size() > 5, SIZE);
            List<Integer> own = new ArrayList<>(g.papers);
            own.sort(null);
            int most = -1;
            int answer = 0;
            int ways = 1 << 2 * own.size();
            for (int way = 0; way < ways; way++) {
                List<Integer> papers = new ArrayList<>();
                int number = 0;
                for (int i = own.size() - 1; i >= 0; i--) {
                    papers.add(way >> 2 * i & 3);
                    number = number * 10 + (way >> 2 * i & 3) + 1;
                }
                List<Integer> sorted = new ArrayList<>(papers);
                sorted.sort(null);
                if (sorted.equals(own)) {
                    Model w = world();
                    w.gifts.get(present).papers = papers;
                    int joy = w.on(n).joyOfAll();
                    answer = joy > most ? number : answer;
                    most = Math.max(most, joy);
                }
            }
            return answer;
        }

        private long happiest(int n) {
            range(n, 0, 60);
            refuse(people.isEmpty(), NONE);
            int[] joy = new int[people.size()];
            for (int i = 0; i < joy.length; i++) {
                joy[i] = on(n).people.get(i)[1];
            }
            return firstOfMost(joy);
        }

        private long enough(Gift g, int present, int paper, int n) {
            range(paper, 0, 3);
            range(n, 1, 30);
            refuse(g.found, STATE);
            Model w = world();
            for (int k = 0; g.papers.size() + k <= 6; k++) {
                if (!w.on(n).gifts.get(present).found) {
                    return k;
                }
                w.gifts.get(present).papers.add(0, paper);
            }
            throw new Finding(NONE);
        }

        private long feed(int bytes, int n) {
            range(n, 1, 4);
            refuse(tape.length() + n > 120, FULL);
            for (int k = n; k > 0; k--) {
                tape += (char) (bytes >> 8 * (k - 1) & 255);
            }
            return tape.length();
        }

        private long town() {
            String text = tape;
            tape = "";
            List<String> tokens = new ArrayList<>();
            List<Integer> places = new ArrayList<>();
            Matcher matcher = TOKEN.matcher(text);
            int at = 0;
            while (matcher.region(at, text.length()).lookingAt()) {
                tokens.add(matcher.group(1));
                places.add(matcher.start(1));
                at = matcher.end();
            }
            String rest = text.substring(at).replaceAll("^ +", "");
            tokens.add(rest.isEmpty() ? "<end>" : "<bad>");
            places.add(text.length() - rest.length());
            Model w = world();
            int[] stands = {0};
            int items = w.items(tokens, stands);
            if (items < 0) {
                return -1 - places.get(stands[0]);
            }
            setWorld(w);
            return items;
        }

        /** How many items; -1 with stands at the token that can't stand there. */
        private int items(List<String> tokens, int[] stands) {
            int items = 0;
            while (true) {
                String first = tokens.get(stands[0]);
                int kind = Arrays.asList(KIND_NAMES).indexOf(first);
                if (kind >= 0 && people.size() < 6) {
                    people.add(new int[] {kind, 0});
                    stands[0]++;
                } else if (first.equals("present") && gifts.size() < 8) {
                    stands[0]++;
                    if (!gift(tokens, stands)) {
                        return -1;
                    }
                } else {
                    return -1;
                }
                items++;
                if (tokens.get(stands[0]).equals("<end>")) {
                    return items;
                }
                if (!tokens.get(stands[0]).equals(";")) {
                    return -1;
                }
                stands[0]++;
            }
        }

        private boolean gift(List<String> tokens, int[] stands) {
            Gift g = new Gift();
            g.with = value(tokens.get(stands[0]));
            if (g.with < 0 || g.with >= people.size()) {
                return false;
            }
            stands[0]++;
            if (tokens.get(stands[0]).equals("thing")) {
                stands[0]++;
                g.thing = value(tokens.get(stands[0]));
                if (g.thing < 0 || g.thing > 99) {
                    return false;
                }
                stands[0]++;
            }
            while (Arrays.asList(PAPER_NAMES).contains(tokens.get(stands[0]))) {
                if (g.papers.size() == 6) {
                    return false;
                }
                g.papers.add(Arrays.asList(PAPER_NAMES).indexOf(tokens.get(stands[0])));
                stands[0]++;
            }
            gifts.add(g);
            return true;
        }

        private static int value(String token) {
            if (!token.matches("[0-9]+")) {
                return -1;
            }
            java.math.BigInteger number = new java.math.BigInteger(token);
            return number.bitLength() > 20 ? 1000 : number.intValue();
        }

        private long[] row(int s) {
            range(s, 0, 3);
            refuse(sheets[s] == null, MISSING);
            return sheets[s];
        }

        private long cut(int s, long v) {
            return v << 64 - bits[s] >> 64 - bits[s];
        }

        private long sheet(int s, int ofBits, int n) {
            range(s, 0, 3);
            refuse(!Arrays.asList(0, 8, 16, 64).contains(ofBits), BEYOND);
            refuse(n < 0, SIZE);
            refuse(n > 40, BEYOND);
            sheets[s] = ofBits == 0 ? null : new long[n];
            bits[s] = ofBits;
            return ofBits == 0 ? 0 : n;
        }

        private long copy(int s, int from, int t, int to, int n) {
            range(s, 0, 3);
            range(t, 0, 3);
            refuse(sheets[s] == null || sheets[t] == null, MISSING);
            refuse(bits[s] != bits[t], KIND);
            range(from, 0, 40);
            range(to, 0, 40);
            range(n, 0, 40);
            refuse(from + n > sheets[s].length || to + n > sheets[t].length, BEYOND);
            long[] were = sheets[s].clone();
            for (int i = 0; i < n; i++) {
                sheets[t][to + i] = were[from + i];
            }
            return n;
        }

        private long lays(long[] numbers, int present) {
            Gift g = gift(present);
            refuse(g.found, STATE);
            g.papers.clear();
            for (int i = 0; i < numbers.length && i < 6 && numbers[i] >= 0 && numbers[i] <= 3; i++) {
                g.papers.add((int) numbers[i]);
            }
            return g.papers.size();
        }

        private long book(long[] numbers, int s, int person) {
            one(person);
            for (int i = 0; i < numbers.length; i++) {
                numbers[i] = cut(s, on(i).people.get(person)[1]);
            }
            return numbers.length;
        }

        private long read(long[] numbers, int person, int present) {
            one(person);
            gift(present);
            int pairs = 0;
            for (int k = 0; k < 6; k++) {
                for (int t = 0; t < 100; t++) {
                    Model w = world();
                    w.people.get(person)[0] = k;
                    w.gifts.get(present).thing = t;
                    boolean so = true;
                    for (int i = 0; i < numbers.length && so; i++) {
                        so = w.people.get(person)[1] == numbers[i];
                        w.dayGoes();
                    }
                    pairs += so ? 1 : 0;
                }
            }
            return pairs;
        }
    }
}
