/** A town of people who unwrap, keep, wrap again and pass on presents, day by day. */
public final class WrapGifts {
    private static final int BEYOND = -1000000001;
    private static final int FULL = -1000000002;
    private static final int KIND = -1000000003;
    private static final int NONE = -1000000004;
    private static final int STATE = -1000000005;
    private static final int MISSING = -1000000006;
    private static final int SIZE = -1000000007;
    private static final int FINDINGS = 7;

    private static final int MOST_PEOPLE = 6;
    private static final int MOST_PRESENTS = 8;
    private static final int MOST_LAYERS = 6;
    private static final int MOST_ORDERED = 5;
    private static final int MOST_JOY = 9999;
    private static final int MOST_THING = 99;
    private static final int LAST_DAY = 9999;
    private static final int FAR = 60;
    private static final int NEAR = 30;
    private static final int NEAREST = 10;
    private static final int KINDS = 6;
    private static final int PAPERS = 4;
    private static final int NEWS = 0;
    private static final int MARBLED = 3;
    private static final int MOST_BYTES = 120;
    private static final int SHEETS = 4;
    private static final int MOST_NUMBERS = 40;

    private final Town town;
    private final Town kept;
    private final Town trial;
    private boolean isKept;
    private final Sheet[] sheets;
    private final Tape tape;
    private final int[] told;
    private final int[] row;

    public WrapGifts() {
        Man[] manners = allManners();
        town = new Town(manners);
        kept = new Town(manners);
        trial = new Town(manners);
        isKept = false;
        sheets = new Sheet[SHEETS];
        for (int s = 0; s < SHEETS; s++) {
            sheets[s] = new Sheet();
        }
        tape = new Tape();
        told = new int[FINDINGS];
        row = new int[MOST_LAYERS];
    }

    // ---- people

    public int person(int kind) {
        if (!isKind(kind)) {
            return tell(BEYOND);
        }
        if (town.people >= MOST_PEOPLE) {
            return tell(FULL);
        }
        return town.addPerson(kind);
    }

    public int of(int person, int what) {
        if (!isPerson(person)) {
            return tell(BEYOND);
        }
        switch (what) {
            case 0: return town.folk[person].kind;
            case 1: return town.folk[person].joy;
            case 2: return town.giftsWith(person);
            case 3: return town.giftsWith(person) & town.unopened();
            default: return tell(BEYOND);
        }
    }

    public int does(int person, int what, int present) {
        if (!isPerson(person) || !within(what, 0, 3) || !isPresent(present)) {
            return tell(BEYOND);
        }
        Man manner = town.mannerOf(person);
        Present gift = town.gifts[present];
        if (what <= 1 && gift.layers == 0) {
            return tell(NONE);
        }
        switch (what) {
            case 0: return town.takesOff(person, gift);
            case 1: return manner.enjoys(gift.outermost());
            case 2: return manner.isStruck(gift.thing);
            default: return 1 + manner.passesOn(gift.layers, town.day % PAPERS);
        }
    }

    public int joy(int person, int v) {
        if (!isPerson(person) || !within(v, 0, MOST_JOY)) {
            return tell(BEYOND);
        }
        int before = town.folk[person].joy;
        town.folk[person].joy = v;
        return before;
    }

    public int turn(int person, int kind) {
        if (!isPerson(person) || !isKind(kind)) {
            return tell(BEYOND);
        }
        int before = town.folk[person].kind;
        town.folk[person].kind = kind;
        return before;
    }

    public int as(int person, int kind) {
        if (!isPerson(person) || !isKind(kind)) {
            return tell(BEYOND);
        }
        if (!isOf(town.mannerOf(person), kind)) {
            return tell(KIND);
        }
        return town.folk[person].joy;
    }

    // ---- presents

    public int present(int person, int thing) {
        if (!isPerson(person) || !isThing(thing)) {
            return tell(BEYOND);
        }
        if (town.presents >= MOST_PRESENTS) {
            return tell(FULL);
        }
        return town.addPresent(person, thing);
    }

    public int presentOf(int present, int what) {
        if (!isPresent(present) || !within(what, 0, 3)) {
            return tell(BEYOND);
        }
        return town.gifts[present].tells(what);
    }

    public int paper(int present, int i) {
        if (!isPresent(present) || i < 0) {
            return tell(BEYOND);
        }
        Present gift = town.gifts[present];
        if (i >= gift.layers) {
            return tell(NONE);
        }
        return gift.paperAt(i);
    }

    public int wrap(int present, int paper) {
        if (!isPresent(present) || !isPaper(paper)) {
            return tell(BEYOND);
        }
        Present gift = town.gifts[present];
        if (gift.layers >= MOST_LAYERS) {
            return tell(FULL);
        }
        if (gift.isFound) {
            return tell(STATE);
        }
        gift.layAbout(paper);
        return gift.layers;
    }

    public int unwrap(int present) {
        if (!isPresent(present)) {
            return tell(BEYOND);
        }
        if (town.gifts[present].layers == 0) {
            return tell(NONE);
        }
        return town.gifts[present].takeOff();
    }

    public int set(int present, int what, int v) {
        if (!isPresent(present)) {
            return tell(BEYOND);
        }
        Present gift = town.gifts[present];
        if (what == 1 && isThing(v)) {
            int before = gift.thing;
            gift.thing = v;
            return before;
        }
        if (what == 2 && isPerson(v)) {
            int before = gift.with;
            gift.with = v;
            return before;
        }
        return tell(BEYOND);
    }

    // ---- days

    public int days(int n) {
        if (!within(n, 1, FAR)) {
            return tell(BEYOND);
        }
        if (town.day + n > LAST_DAY) {
            return tell(STATE);
        }
        town.goOn(n);
        return town.unopened();
    }

    public int now(int what) {
        switch (what) {
            case 0: return town.day;
            case 1: return town.joyOfAll();
            case 2: return town.opened();
            case 3: return town.layersOfAll();
            case 4: return town.thingsFound();
            default: return tell(BEYOND);
        }
    }

    public int on(int present, int n, int what) {
        if (!isPresent(present) || !within(n, 0, FAR) || !within(what, 0, 3) || what == 1) {
            return tell(BEYOND);
        }
        startTrial();
        trial.goOn(n);
        return trial.gifts[present].tells(what);
    }

    public int joyOn(int person, int n) {
        if (!isPerson(person) || !within(n, 0, FAR)) {
            return tell(BEYOND);
        }
        startTrial();
        trial.goOn(n);
        return trial.folk[person].joy;
    }

    public int found(int present) {
        if (!isPresent(present)) {
            return tell(BEYOND);
        }
        startTrial();
        for (int n = 0; n <= FAR; n++) {
            if (trial.gifts[present].isFound) {
                return n;
            }
            trial.oneDay();
        }
        return tell(NONE);
    }

    public int comes(int present, int person) {
        if (!isPresent(present) || !isPerson(person)) {
            return tell(BEYOND);
        }
        startTrial();
        for (int n = 0; n <= FAR; n++) {
            if (trial.gifts[present].with == person) {
                return n;
            }
            trial.oneDay();
        }
        return tell(NONE);
    }

    // ---- what is best

    public int best(int present, int n) {
        if (!isPresent(present) || !within(n, 1, NEAR)) {
            return tell(BEYOND);
        }
        if (town.gifts[present].layers >= MOST_LAYERS) {
            return tell(FULL);
        }
        if (town.gifts[present].isFound) {
            return tell(STATE);
        }
        int best = 0;
        int most = -1;
        for (int paper = 0; paper < PAPERS; paper++) {
            startTrial();
            trial.gifts[present].layAbout(paper);
            trial.goOn(n);
            int joy = trial.joyOfAll();
            if (joy > most) {
                most = joy;
                best = paper;
            }
        }
        return best;
    }

    public int give(int present, int n) {
        if (!isPresent(present) || !within(n, 1, NEAR)) {
            return tell(BEYOND);
        }
        int best = 0;
        int most = -1;
        for (int person = 0; person < town.people; person++) {
            startTrial();
            trial.gifts[present].with = person;
            trial.goOn(n);
            int joy = trial.joyOfAll();
            if (joy > most) {
                most = joy;
                best = person;
            }
        }
        return best;
    }

    public int kind(int person, int n) {
        if (!isPerson(person) || !within(n, 1, NEAR)) {
            return tell(BEYOND);
        }
        int best = 0;
        int most = -1;
        for (int kind = 0; kind < KINDS; kind++) {
            startTrial();
            trial.folk[person].kind = kind;
            trial.goOn(n);
            int joy = trial.folk[person].joy;
            if (joy > most) {
                most = joy;
                best = kind;
            }
        }
        return best;
    }

    public int least(int present, int person, int n, int v) {
        if (!isPresent(present) || !isPerson(person)
                || !within(n, 1, NEAR) || !within(v, 0, MOST_JOY)) {
            return tell(BEYOND);
        }
        for (int thing = 0; thing <= MOST_THING; thing++) {
            startTrial();
            trial.gifts[present].thing = thing;
            trial.goOn(n);
            if (trial.folk[person].joy >= v) {
                return thing;
            }
        }
        return tell(NONE);
    }

    public int order(int present, int n) {
        if (!isPresent(present) || !within(n, 1, NEAREST)) {
            return tell(BEYOND);
        }
        int layers = town.gifts[present].layers;
        if (layers == 0) {
            return tell(NONE);
        }
        if (layers > MOST_ORDERED) {
            return tell(SIZE);
        }
        startRow(present, layers);
        int best = 0;
        int most = -1;
        boolean more = true;
        // Orders come by rising number, so the least of equals is met first; five layers have at most 120.
        for (int k = 0; k < 120 && more; k++) {
            startTrial();
            trial.gifts[present].layAnew(row, layers);
            trial.goOn(n);
            int joy = trial.joyOfAll();
            if (joy > most) {
                most = joy;
                best = rowAsNumber(layers);
            }
            more = nextRow(layers);
        }
        return best;
    }

    public int happiest(int n) {
        if (!within(n, 0, FAR)) {
            return tell(BEYOND);
        }
        if (town.people == 0) {
            return tell(NONE);
        }
        startTrial();
        trial.goOn(n);
        int best = 0;
        for (int person = 1; person < trial.people; person++) {
            if (trial.folk[person].joy > trial.folk[best].joy) {
                best = person;
            }
        }
        return best;
    }

    public int enough(int present, int paper, int n) {
        if (!isPresent(present) || !isPaper(paper) || !within(n, 1, NEAR)) {
            return tell(BEYOND);
        }
        if (town.gifts[present].isFound) {
            return tell(STATE);
        }
        int room = MOST_LAYERS - town.gifts[present].layers;
        for (int more = 0; more <= room; more++) {
            startTrial();
            for (int k = 0; k < more; k++) {
                trial.gifts[present].layAbout(paper);
            }
            trial.goOn(n);
            if (!trial.gifts[present].isFound) {
                return more;
            }
        }
        return tell(NONE);
    }

    // ---- the text

    public int feed(int bytes, int n) {
        if (!within(n, 1, 4)) {
            return tell(BEYOND);
        }
        if (tape.length + n > MOST_BYTES) {
            return tell(FULL);
        }
        for (int k = n - 1; k >= 0; k--) {
            tape.add((bytes >>> (8 * k)) & 255);
        }
        return tape.length;
    }

    public int wipe() {
        int had = tape.length;
        tape.length = 0;
        return had;
    }

    public int town() {
        // The text is read into the trial, so that a fault leaves the town as it is.
        startTrial();
        int answer = tape.readTown(trial);
        tape.length = 0;
        if (answer >= 0) {
            town.become(trial);
        }
        return answer;
    }

    // ---- sheets

    public int sheet(int s, int bits, int n) {
        if (!isSheet(s) || (bits != 0 && bits != 8 && bits != 16 && bits != 64)) {
            return tell(BEYOND);
        }
        if (n < 0) {
            return tell(SIZE);
        }
        if (n > MOST_NUMBERS) {
            return tell(BEYOND);
        }
        sheets[s].begin(bits, bits == 0 ? 0 : n);
        return sheets[s].size;
    }

    public long write(int s, int i, long v) {
        if (!isSheet(s)) {
            return tell(BEYOND);
        }
        if (sheets[s].isMissing()) {
            return tell(MISSING);
        }
        if (!within(i, 0, sheets[s].size - 1)) {
            return tell(BEYOND);
        }
        long before = sheets[s].numbers[i];
        sheets[s].put(i, v);
        return before;
    }

    public int copy(int s, int from, int t, int to, int n) {
        if (!isSheet(s) || !isSheet(t)) {
            return tell(BEYOND);
        }
        if (sheets[s].isMissing() || sheets[t].isMissing()) {
            return tell(MISSING);
        }
        if (sheets[s].bits != sheets[t].bits) {
            return tell(KIND);
        }
        if (!sheets[s].holds(from, n) || !sheets[t].holds(to, n)) {
            return tell(BEYOND);
        }
        System.arraycopy(sheets[s].numbers, from, sheets[t].numbers, to, n);
        return n;
    }

    public int lays(int s, int present) {
        if (!isSheet(s)) {
            return tell(BEYOND);
        }
        if (sheets[s].isMissing()) {
            return tell(MISSING);
        }
        if (!isPresent(present)) {
            return tell(BEYOND);
        }
        Present gift = town.gifts[present];
        if (gift.isFound) {
            return tell(STATE);
        }
        gift.layers = 0;
        int most = Math.min(sheets[s].size, MOST_LAYERS);
        for (int i = 0; i < most; i++) {
            long number = sheets[s].numbers[i];
            if (number < 0 || number >= PAPERS) {
                break;
            }
            gift.layInnermost((int) number);
        }
        return gift.layers;
    }

    public int book(int s, int person) {
        if (!isSheet(s)) {
            return tell(BEYOND);
        }
        if (sheets[s].isMissing()) {
            return tell(MISSING);
        }
        if (!isPerson(person)) {
            return tell(BEYOND);
        }
        startTrial();
        for (int i = 0; i < sheets[s].size; i++) {
            sheets[s].put(i, trial.folk[person].joy);
            trial.oneDay();
        }
        return sheets[s].size;
    }

    public int read(int s, int person, int present) {
        if (!isSheet(s)) {
            return tell(BEYOND);
        }
        if (sheets[s].isMissing()) {
            return tell(MISSING);
        }
        if (!isPerson(person) || !isPresent(present)) {
            return tell(BEYOND);
        }
        if (sheets[s].size > 0 && sheets[s].numbers[0] != town.folk[person].joy) {
            // ON 0 days neither kind nor thing has told yet.
            return 0;
        }
        int pairs = 0;
        for (int kind = 0; kind < KINDS; kind++) {
            for (int thing = 0; thing <= MOST_THING; thing++) {
                startTrial();
                trial.folk[person].kind = kind;
                trial.gifts[present].thing = thing;
                if (trialGoesAs(sheets[s], person)) {
                    pairs++;
                }
            }
        }
        return pairs;
    }

    // ---- images

    public int image() {
        kept.become(town);
        isKept = true;
        return 1;
    }

    public int undo() {
        if (!isKept) {
            return tell(NONE);
        }
        town.become(kept);
        return town.people;
    }

    public int tear() {
        int had = isKept ? 1 : 0;
        isKept = false;
        return had;
    }

    public int count(int what) {
        switch (what) {
            case 0: return town.people;
            case 1: return town.presents;
            case 2: return tape.length;
            case 3: return Integer.bitCount(town.opened());
            default: return tell(BEYOND);
        }
    }

    public int status(int which) {
        if (!within(which, -1, FINDINGS - 1)) {
            return tell(BEYOND);
        }
        if (which >= 0) {
            return told[which];
        }
        int all = 0;
        for (int k = 0; k < FINDINGS; k++) {
            all += told[k];
        }
        return all;
    }

    // ---- helpers

    private int tell(int finding) {
        int which = BEYOND - finding;
        if (within(which, 0, FINDINGS - 1)) {
            told[which]++;
        }
        return finding;
    }

    private static boolean within(int v, int least, int most) {
        return v >= least && v <= most;
    }

    private static boolean isKind(int kind) {
        return within(kind, 0, KINDS - 1);
    }

    private static boolean isPaper(int paper) {
        return within(paper, 0, PAPERS - 1);
    }

    private static boolean isThing(int thing) {
        return within(thing, 0, MOST_THING);
    }

    private static boolean isSheet(int s) {
        return within(s, 0, SHEETS - 1);
    }

    private boolean isPerson(int person) {
        return within(person, 0, town.people - 1);
    }

    private boolean isPresent(int present) {
        return within(present, 0, town.presents - 1);
    }

    private static boolean isOf(Man manner, int kind) {
        switch (kind) {
            case 0: return true;
            case 1: return manner instanceof Aunt;
            case 2: return manner instanceof Child;
            case 3: return manner instanceof Poor;
            case 4: return manner instanceof Girl;
            default: return manner instanceof Clerk;
        }
    }

    private static Man[] allManners() {
        Man[] manners = new Man[KINDS];
        manners[0] = new Man();
        manners[1] = new Aunt();
        manners[2] = new Child();
        manners[3] = new Poor();
        manners[4] = new Girl();
        manners[5] = new Clerk();
        return manners;
    }

    private void startTrial() {
        trial.become(town);
    }

    private boolean trialGoesAs(Sheet sheet, int person) {
        for (int i = 0; i < sheet.size; i++) {
            if (i > 0) {
                trial.oneDay();
            }
            if (trial.folk[person].joy != sheet.numbers[i]) {
                return false;
            }
        }
        return true;
    }

    /** The row becomes the least order of a present's papers. */
    private void startRow(int present, int length) {
        for (int i = 0; i < length; i++) {
            row[i] = town.gifts[present].paperAt(i);
            for (int j = i; j > 0 && row[j - 1] > row[j]; j--) {
                swapInRow(j - 1, j);
            }
        }
    }

    private int rowAsNumber(int length) {
        int number = 0;
        for (int i = 0; i < length; i++) {
            number = number * 10 + row[i] + 1;
        }
        return number;
    }

    /** Makes the row the next greater order of its papers; false if it is the greatest. */
    private boolean nextRow(int length) {
        int i = length - 2;
        while (i >= 0 && row[i] >= row[i + 1]) {
            i--;
        }
        if (i < 0) {
            return false;
        }
        int j = length - 1;
        while (j > i && row[j] <= row[i]) {
            j--;
        }
        swapInRow(i, j);
        for (int a = i + 1, b = length - 1; a < b; a++, b--) {
            swapInRow(a, b);
        }
        return true;
    }

    private void swapInRow(int i, int j) {
        int other = row[i];
        row[i] = row[j];
        row[j] = other;
    }

    // ---- kinds of people: each is written as what it says of the kind above

    private static class Man {
        int opens(int day, int layers, int outermost) {
            return 1;
        }

        int enjoys(int paper) {
            return paper + 1;
        }

        int isStruck(int thing) {
            return thing;
        }

        /** The paper with which a present is given on, or -1. */
        int passesOn(int layers, int rest) {
            return layers >= 4 ? rest : -1;
        }
    }

    private static class Aunt extends Man {
        int opens(int day, int layers, int outermost) {
            return 0;
        }
        int enjoys(int paper) {
            return 2 * super.enjoys(paper);
        }
        int isStruck(int thing) {
            return thing > 0 ? 0 : 5;
        }
        int passesOn(int layers, int rest) {
            return layers == 6 ? super.passesOn(layers, rest) : -1;
        }
    }

    private static class Child extends Man {
        int opens(int day, int layers, int outermost) {
            return 2 * super.opens(day, layers, outermost);
        }
        int enjoys(int paper) {
            return super.enjoys(paper) - 1;
        }
        int isStruck(int thing) {
            return thing == 0 ? 0 : 2 * super.isStruck(thing);
        }
        int passesOn(int layers, int rest) {
            return -1;
        }
    }

    private static final class Poor extends Man {
        int opens(int day, int layers, int outermost) {
            return outermost == MARBLED ? 0 : super.opens(day, layers, outermost);
        }
        int enjoys(int paper) {
            return paper == NEWS ? 6 : super.enjoys(paper);
        }
        int passesOn(int layers, int rest) {
            return layers >= 1 && layers <= 3 ? NEWS : -1;
        }
    }

    private static final class Girl extends Child {
        int opens(int day, int layers, int outermost) {
            return layers;
        }
        int enjoys(int paper) {
            return 0;
        }
        int isStruck(int thing) {
            return super.isStruck(thing) + 10;
        }
    }

    private static final class Clerk extends Aunt {
        int opens(int day, int layers, int outermost) {
            return day % 5 == 0 ? 1 : super.opens(day, layers, outermost);
        }
        int enjoys(int paper) {
            return super.enjoys(paper) - 1;
        }
        int isStruck(int thing) {
            return super.isStruck(thing) + thing / 2;
        }
        int passesOn(int layers, int rest) {
            return layers >= 2 ? rest : -1;
        }
    }

    // ---- what a town holds

    private static final class Person {
        int kind;
        int joy;

        void become(Person other) {
            kind = other.kind;
            joy = other.joy;
        }

        void pleaseBy(int more) {
            joy = Math.min(MOST_JOY, joy + more);
        }
    }

    private static final class Present {
        /** From the innermost on, so that the outermost comes and goes at the end. */
        private final int[] papers = new int[MOST_LAYERS];
        int layers;
        int thing;
        int with;
        boolean isFound;

        void begin(int person, int inside) {
            layers = 0;
            thing = inside;
            with = person;
            isFound = false;
        }

        void become(Present other) {
            for (int i = 0; i < other.layers; i++) {
                papers[i] = other.papers[i];
            }
            layers = other.layers;
            thing = other.thing;
            with = other.with;
            isFound = other.isFound;
        }

        int tells(int what) {
            switch (what) {
                case 0: return layers;
                case 1: return thing;
                case 2: return with;
                default: return isFound ? 1 : 0;
            }
        }

        /** Paper i from the outermost on, or -1. */
        int paperAt(int i) {
            return i >= 0 && i < layers ? papers[layers - 1 - i] : -1;
        }

        int outermost() {
            return paperAt(0);
        }

        void layAbout(int paper) {
            if (layers < MOST_LAYERS) {
                papers[layers] = paper;
                layers++;
            }
        }

        void layInnermost(int paper) {
            if (layers < MOST_LAYERS) {
                for (int i = layers; i > 0; i--) {
                    papers[i] = papers[i - 1];
                }
                papers[0] = paper;
                layers++;
            }
        }

        /** Papers told from the outermost on come in place of what there was. */
        void layAnew(int[] row, int length) {
            layers = 0;
            for (int i = 0; i < length && i < row.length; i++) {
                layInnermost(row[i]);
            }
        }

        /** The paper taken off, or -1. */
        int takeOff() {
            int paper = outermost();
            if (layers > 0) {
                layers--;
            }
            return paper;
        }
    }

    private static final class Town {
        private final Man[] manners;
        final Person[] folk;
        final Present[] gifts;
        int day;
        int people;
        int presents;

        Town(Man[] manners) {
            this.manners = manners;
            folk = new Person[MOST_PEOPLE];
            for (int i = 0; i < MOST_PEOPLE; i++) {
                folk[i] = new Person();
            }
            gifts = new Present[MOST_PRESENTS];
            for (int g = 0; g < MOST_PRESENTS; g++) {
                gifts[g] = new Present();
            }
        }

        void become(Town other) {
            day = other.day;
            people = other.people;
            presents = other.presents;
            for (int i = 0; i < people; i++) {
                folk[i].become(other.folk[i]);
            }
            for (int g = 0; g < presents; g++) {
                gifts[g].become(other.gifts[g]);
            }
        }

        /** The new one's number, or -1 if there is no room. */
        int addPerson(int kind) {
            if (people >= MOST_PEOPLE) {
                return -1;
            }
            folk[people].kind = kind;
            folk[people].joy = 0;
            people++;
            return people - 1;
        }

        /** The new one's number, or -1 if there is no room. */
        int addPresent(int person, int thing) {
            if (presents >= MOST_PRESENTS) {
                return -1;
            }
            gifts[presents].begin(person, thing);
            presents++;
            return presents - 1;
        }

        Man mannerOf(int person) {
            return manners[folk[person].kind];
        }

        int giftsWith(int person) {
            int bits = 0;
            for (int g = 0; g < presents; g++) {
                if (gifts[g].with == person) {
                    bits |= 1 << g;
                }
            }
            return bits;
        }

        int opened() {
            int bits = 0;
            for (int g = 0; g < presents; g++) {
                if (gifts[g].isFound) {
                    bits |= 1 << g;
                }
            }
            return bits;
        }

        int unopened() {
            return ((1 << presents) - 1) & ~opened();
        }

        int joyOfAll() {
            int joy = 0;
            for (int i = 0; i < people; i++) {
                joy += folk[i].joy;
            }
            return joy;
        }

        int layersOfAll() {
            int layers = 0;
            for (int g = 0; g < presents; g++) {
                layers += gifts[g].layers;
            }
            return layers;
        }

        int thingsFound() {
            int things = 0;
            for (int g = 0; g < presents; g++) {
                if (gifts[g].isFound) {
                    things += gifts[g].thing;
                }
            }
            return things;
        }

        void goOn(int days) {
            for (int n = 0; n < days; n++) {
                oneDay();
            }
        }

        /**
         * Each one touches a present of its own and its own joy alone, so that going by presents comes to the same
         * as going by people; and each present is met once, so that one passed on isn't met again.
         */
        void oneDay() {
            int busy = 0;
            for (int g = 0; g < presents; g++) {
                Present gift = gifts[g];
                int person = gift.with;
                if (gift.isFound || (busy >> person & 1) != 0) {
                    continue;
                }
                busy |= 1 << person;
                if (!handsOn(person, gift)) {
                    openBy(person, gift);
                }
            }
            day++;
        }

        private boolean handsOn(int person, Present gift) {
            int paper = mannerOf(person).passesOn(gift.layers, day % PAPERS);
            if (paper < 0 || people < 2) {
                return false;
            }
            gift.layAbout(paper);
            gift.with = person + 1 < people ? person + 1 : 0;
            return true;
        }

        int takesOff(int person, Present gift) {
            if (gift.layers == 0) {
                return 0;
            }
            int layers = mannerOf(person).opens(day, gift.layers, gift.outermost());
            return Math.min(layers, gift.layers);
        }

        private void openBy(int person, Present gift) {
            Man manner = mannerOf(person);
            int off = takesOff(person, gift);
            for (int k = 0; k < off; k++) {
                folk[person].pleaseBy(manner.enjoys(gift.takeOff()));
            }
            if (gift.layers == 0) {
                gift.isFound = true;
                folk[person].pleaseBy(manner.isStruck(gift.thing));
            }
        }
    }

    private static final class Sheet {
        final long[] numbers = new long[MOST_NUMBERS];
        int bits;
        int size;

        void begin(int bitsOfEach, int length) {
            bits = bitsOfEach;
            size = length;
            for (int i = 0; i < MOST_NUMBERS; i++) {
                numbers[i] = 0;
            }
        }

        boolean isMissing() {
            return bits == 0;
        }

        boolean holds(int from, int n) {
            // Written without from + n, which could wrap around.
            return from >= 0 && n >= 0 && n <= size && from <= size - n;
        }

        void put(int i, long v) {
            if (i < 0 || i >= size) {
                return;
            }
            if (bits == 8) {
                numbers[i] = (byte) v;
            } else if (bits == 16) {
                numbers[i] = (short) v;
            } else {
                numbers[i] = v;
            }
        }
    }

    /** Bytes, and the text of a town read from them token by token. */
    private static final class Tape {
        private static final int FIRST_PAPER = 6;
        private static final int PRESENT = 10;
        private static final int THING = 11;
        private static final int WORDS = 12;
        private static final int SIGN = 12;
        private static final int NUMBER = 13;
        private static final int END = 14;
        private static final int OTHER = 15;

        private final int[] bytes = new int[MOST_BYTES];
        int length;
        private int start;
        private int end;
        private int token;
        private int value;

        void add(int b) {
            if (length < MOST_BYTES) {
                bytes[length] = b;
                length++;
            }
        }

        /** Adds the items to the town: how many, or -1 less the place of the fault. */
        int readTown(Town into) {
            end = 0;
            step();
            for (int items = 1; items <= MOST_BYTES; items++) {
                if (!readItem(into)) {
                    break;
                }
                if (token == END) {
                    return items;
                }
                if (token != SIGN) {
                    break;
                }
                step();
            }
            return -1 - start;
        }

        private boolean readItem(Town into) {
            if (token < KINDS) {
                if (into.addPerson(token) < 0) {
                    return false;
                }
                step();
                return true;
            }
            if (token != PRESENT || into.presents >= MOST_PRESENTS) {
                return false;
            }
            step();
            return readPresent(into);
        }

        private boolean readPresent(Town into) {
            if (token != NUMBER || value >= into.people) {
                return false;
            }
            int person = value;
            int thing = 0;
            step();
            if (token == THING) {
                step();
                if (token != NUMBER || value > MOST_THING) {
                    return false;
                }
                thing = value;
                step();
            }
            int g = into.addPresent(person, thing);
            for (int k = 0; k < MOST_LAYERS && g >= 0 && isPaperName(); k++) {
                into.gifts[g].layInnermost(token - FIRST_PAPER);
                step();
            }
            // A seventh paper is left as the token, which can't stand where an item has ended.
            return g >= 0;
        }

        private boolean isPaperName() {
            return token >= FIRST_PAPER && token < FIRST_PAPER + PAPERS;
        }

        /** Goes on to the next token; a fault is told at its start, so that is the length at the end. */
        private void step() {
            start = end;
            while (start < length && bytes[start] == ' ') {
                start++;
            }
            end = start;
            if (start >= length) {
                token = END;
            } else if (isLetter(bytes[end])) {
                stepOverWord();
            } else if (isDigit(bytes[end])) {
                stepOverNumber();
            } else {
                token = bytes[start] == ';' ? SIGN : OTHER;
                end++;
            }
        }

        private void stepOverWord() {
            while (end < length && isLetter(bytes[end])) {
                end++;
            }
            token = OTHER;
            for (int word = 0; word < WORDS; word++) {
                if (reads(nameOf(word))) {
                    token = word;
                }
            }
        }

        private void stepOverNumber() {
            token = NUMBER;
            value = 0;
            while (end < length && isDigit(bytes[end])) {
                // All above 999 are alike refused, so the value stays at 1000 and can't wrap around.
                value = Math.min(1000, value * 10 + bytes[end] - '0');
                end++;
            }
        }

        private static boolean isLetter(int b) {
            return b >= 'a' && b <= 'z';
        }

        private static boolean isDigit(int b) {
            return b >= '0' && b <= '9';
        }

        private boolean reads(String name) {
            if (name.length() != end - start) {
                return false;
            }
            for (int i = 0; i < name.length(); i++) {
                if (bytes[start + i] != name.charAt(i)) {
                    return false;
                }
            }
            return true;
        }

        /** Kinds and papers stand in the order of their numbers. */
        private static String nameOf(int word) {
            switch (word) {
                case 0: return "man";
                case 1: return "aunt";
                case 2: return "child";
                case 3: return "poor";
                case 4: return "girl";
                case 5: return "clerk";
                case 6: return "news";
                case 7: return "brown";
                case 8: return "tissue";
                case 9: return "marbled";
                case PRESENT: return "present";
                default: return "thing";
            }
        }
    }
}
