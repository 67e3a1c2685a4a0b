/**
 * Two views make a thing: countries, years, sights and quarrels told as texts on a tape, and what
 * follows from them. The document's words stand in capitals in the comments.
 */
public final class PairedViews {
    public static final int NONE = -1;

    private static final int NO_SUCH = -2;
    private static final int IMAGES = 3;
    private static final int MOST_DRAWN = 60;

    private final Told told;
    private final Told[] images;
    private final boolean[] taken;
    private final Reader reader;
    private final Scene scene;
    private final Watchers watchers;
    private final Eyes eyes;
    private final Field field;

    public PairedViews() {
        Country empty = new Country();
        told = new Told();
        images = new Told[IMAGES];
        for (int k = 0; k < IMAGES; k++) {
            images[k] = new Told();
        }
        taken = new boolean[IMAGES];
        reader = new Reader();
        scene = new Scene(empty);
        watchers = new Watchers(empty);
        eyes = new Eyes();
        field = new Field();
    }

    public int feed(int a, int b, int c, int d, int e) {
        if (told.length + 20 > Told.MOST_BYTES) {
            return NONE;
        }
        told.addWord(a);
        told.addWord(b);
        told.addWord(c);
        told.addWord(d);
        told.addWord(e);
        return told.length;
    }

    public int end(int n) {
        if (n < 0 || n > told.length) {
            return NONE;
        }
        told.length = n;
        return n;
    }

    public int text(int sort, int at) {
        // The tape is taken by every call, also by one that reads no text.
        int length = told.length;
        told.length = 0;
        told.faultFound = 0;
        told.faultPlace = NONE;
        int slot = told.slotFor(sort, at);
        if (slot < 0) {
            return NO_SUCH;
        }
        reader.read(told.tape, length, sort);
        if (reader.faultFound == 0 && sort == 0) {
            Country land = reader.toCountry();
            if (reader.faultFound == 0) {
                told.putCountry(slot, land);
            }
        } else if (reader.faultFound == 0) {
            told.putRows(sort, slot, reader.toRows());
        }
        told.faultFound = reader.faultFound;
        told.faultPlace = reader.faultPlace;
        return reader.faultFound == 0 ? slot : NONE;
    }

    public int fault(int what) {
        if (what == 0) {
            return told.faultFound;
        }
        return what == 1 ? told.faultPlace : NONE;
    }

    public int country(int country, int what) {
        Country land = told.countryAt(country);
        return land == null ? NO_SUCH : land.answer(what);
    }

    public int deed(int year, int k, int what) {
        Rows rows = told.rowsAt(Told.YEARS, year);
        if (rows == null) {
            return NO_SUCH;
        }
        if (k == NONE) {
            return what == 0 ? rows.size : NO_SUCH;
        }
        return rows.answer(k, what);
    }

    public int till(int country, int year) {
        Country land = told.countryAt(country);
        Rows rows = told.rowsAt(Told.YEARS, year);
        if (land == null || rows == null) {
            return NONE;
        }
        scene.begin(land);
        return scene.live(rows, rows.size);
    }

    public int state(int country, int year, int n, int what) {
        Country land = told.countryAt(country);
        Rows rows = told.rowsAt(Told.YEARS, year);
        if (land == null || rows == null || n < 0 || n > rows.size) {
            return NO_SUCH;
        }
        scene.begin(land);
        return scene.live(rows, n) < n ? NO_SUCH : scene.answer(what);
    }

    public int lasts(int country, int thing) {
        Country land = told.countryAt(country);
        if (land == null || !land.hasThing(thing)) {
            return NONE;
        }
        scene.begin(land);
        for (int hours = 0; hours <= Scene.MOST_HOURS; hours++) {
            if (!scene.isThere(thing)) {
                return hours;
            }
            scene.passHour();
        }
        return NONE;
    }

    public int watch(int country, int k) {
        Country land = told.countryAt(country);
        if (land == null || k < -2 || k >= land.couples) {
            return NONE;
        }
        watchers.search(land);
        if (k == NONE) {
            return watchers.mostThings;
        }
        return k == -2 ? watchers.mostSolid : watchers.chosen(k);
    }

    public int way(int country, int from, int to, boolean surest) {
        Country land = told.countryAt(country);
        if (land == null || !land.hasThing(from) || !land.hasThing(to)) {
            return NONE;
        }
        scene.begin(land);
        return surest ? scene.surest(from, to) : scene.fewestHours(from, to);
    }

    public int married(int country, int eye, boolean right) {
        Country land = told.countryAt(country);
        if (land == null) {
            return NO_SUCH;
        }
        eyes.marry(land);
        return right ? pick(eyes.rightHas, land.rights, eye) : pick(eyes.leftHas, land.lefts, eye);
    }

    public int unhappy(int country) {
        Country land = told.countryAt(country);
        return land == null ? NONE : eyes.countUnhappy(land);
    }

    public int agree(int a, int b, int c, int hand, boolean mean) {
        if (!isNumber(a) || !isNumber(b) || !isNumber(c) || hand < 0 || hand > 9) {
            return NONE;
        }
        int ab = Math.abs(a - b);
        int ac = Math.abs(a - c);
        int bc = Math.abs(b - c);
        int least = Math.min(ab, Math.min(ac, bc));
        if (least > hand) {
            return NONE;
        }
        if (ab == least) {
            return mean ? (a + b) / 2 : 0;
        }
        if (ac == least) {
            return mean ? (a + c) / 2 : 1;
        }
        return mean ? (b + c) / 2 : 2;
    }

    public int view(int sights, int k, int what) {
        Rows rows = told.rowsAt(Told.SIGHTS, sights);
        if (rows == null) {
            return NO_SUCH;
        }
        if (k == NONE) {
            return what == 0 ? rows.size : NO_SUCH;
        }
        // A VIEW has one number alone, so there is no what 2 of it.
        return what == 2 ? NO_SUCH : rows.answer(k, what);
    }

    public int fits(int sights, int error, int what) {
        Rows rows = told.rowsAt(Told.SIGHTS, sights);
        if (rows == null || !Field.isError(error)) {
            return NO_SUCH;
        }
        field.gather(rows, error, NONE);
        if (what == 0) {
            return field.size;
        }
        if (what == 1) {
            return field.size == 1 ? field.cellAt(0) : NONE;
        }
        if (what == 2) {
            return field.nextView(error);
        }
        return what < 10 ? NO_SUCH : field.cellAt(what - 10);
    }

    public int fact(int quarrels, int k, int what) {
        Rows rows = told.rowsAt(Told.QUARRELS, quarrels);
        if (rows == null) {
            return NO_SUCH;
        }
        if (k == NONE) {
            return what == 0 ? rows.size : NO_SUCH;
        }
        int sort = rows.answer(k, 0);
        if (sort == Quarrel.LOOKED && (what == 1 || what == 2)) {
            // The text has the COUPLE first, the answers have the THING first.
            return rows.answer(k, 3 - what);
        }
        return rows.answer(k, what);
    }

    public int words(int quarrels, int what) {
        Rows rows = told.rowsAt(Told.QUARRELS, quarrels);
        if (rows == null) {
            return NO_SUCH;
        }
        int sets = Quarrel.fitting(rows);
        if (what == 0) {
            return Integer.bitCount(sets);
        }
        if (what == 1) {
            return Quarrel.inAll(sets);
        }
        if (what == 2) {
            return Quarrel.fewest(sets);
        }
        return what < 10 ? NO_SUCH : Quarrel.setAt(sets, what - 10);
    }

    public int drawn(int country, int seed, int n, int what) {
        Country land = told.countryAt(country);
        if (land == null || n < 0 || n > MOST_DRAWN) {
            return NO_SUCH;
        }
        scene.begin(land);
        scene.seed = seed;
        for (int i = 0; i < n; i++) {
            scene.drawDeed();
        }
        return scene.answer(what);
    }

    public int need(int country, int thing, int n) {
        Country land = told.countryAt(country);
        if (land == null || !land.hasThing(thing) || n < 0 || n > Scene.MOST_HOURS) {
            return NONE;
        }
        // More SOLID never takes the THING away: what else falls is the same as long as it is there.
        int low = 1;
        int high = 100;
        for (int halving = 0; halving < 8 && low < high; halving++) {
            int middle = (low + high) / 2;
            if (scene.staysWith(land, thing, middle, n)) {
                high = middle;
            } else {
                low = middle + 1;
            }
        }
        return low > 99 ? NONE : low;
    }

    public int keystone(int country, boolean many) {
        Country land = told.countryAt(country);
        if (land == null) {
            return NO_SUCH;
        }
        scene.begin(land);
        int stone = NONE;
        int most = NONE;
        for (int t = 0; t < land.things; t++) {
            int others = scene.isThere(t) ? Integer.bitCount(scene.restingOn(t)) : NONE;
            if (others > most) {
                stone = t;
                most = others;
            }
        }
        return many ? most : stone;
    }

    public int height(int country, int what) {
        Country land = told.countryAt(country);
        if (land == null) {
            return NO_SUCH;
        }
        scene.begin(land);
        switch (what) {
            case 0:
                return scene.highest();
            case 1:
                watchers.search(land);
                return watchers.fewestLooks;
            case 2:
                return scene.countParts();
            case 3:
                return scene.largestPart();
            case 4:
                return Eyes.mostPairs(land);
            default:
                return NO_SUCH;
        }
    }

    public int meet(int country, int a, int b) {
        Country land = told.countryAt(country);
        if (land == null || !land.hasThing(a) || !land.hasThing(b)) {
            return NONE;
        }
        scene.begin(land);
        return scene.fewestHoursToMeet(a, b);
    }

    public int after(int country, int year, int what) {
        Country land = told.countryAt(country);
        Rows rows = told.rowsAt(Told.YEARS, year);
        if (land == null || rows == null) {
            return NO_SUCH;
        }
        scene.begin(land);
        scene.live(rows, rows.size);
        switch (what) {
            case 0:
                return Integer.bitCount(scene.gone & ~scene.goneAtFirst);
            case 1:
                return scene.firstLoss;
            case 2:
                return scene.busiest();
            case 3:
                return scene.giants;
            default:
                return NO_SUCH;
        }
    }

    public int wrong(int sights, int error, boolean many) {
        Rows rows = told.rowsAt(Told.SIGHTS, sights);
        if (rows == null || !Field.isError(error)) {
            return NONE;
        }
        int worst = NONE;
        int most = NONE;
        for (int k = 0; k < rows.size; k++) {
            field.gather(rows, error, k);
            if (field.size > most) {
                worst = k;
                most = field.size;
            }
        }
        return many ? most : worst;
    }

    public int tell(int quarrels) {
        Rows rows = told.rowsAt(Told.QUARRELS, quarrels);
        return rows == null ? NONE : Quarrel.telling(rows);
    }

    public int count(int sort) {
        return told.sizeOf(sort);
    }

    public boolean image(int k) {
        if (k < 0 || k >= IMAGES) {
            return false;
        }
        images[k].copy(told);
        taken[k] = true;
        return true;
    }

    public boolean again(int k) {
        if (k < 0 || k >= IMAGES || !taken[k]) {
            return false;
        }
        told.copy(images[k]);
        return true;
    }

    private static boolean isNumber(int number) {
        return number >= 0 && number <= 99;
    }

    /** What a row has at a place, if the place is among the first ones that count. */
    private static int pick(int[] row, int size, int at) {
        return at >= 0 && at < size && at < row.length ? row[at] : NO_SUCH;
    }

    private static boolean hasBit(int bits, int at) {
        return at >= 0 && at < 32 && (bits >>> at & 1) != 0;
    }

    /** All that an image keeps. COUNTRIES and rows never change once told, so images share them. */
    private static final class Told {
        static final int MOST_BYTES = 600;
        static final int SORTS = 4;
        static final int MOST_OF_SORT = 2;
        static final int YEARS = 1;
        static final int SIGHTS = 2;
        static final int QUARRELS = 3;

        final byte[] tape;
        int length;
        int faultFound;
        int faultPlace;
        final int[] sizes;
        final Country[] countries;
        final Rows[] rows;

        Told() {
            tape = new byte[MOST_BYTES];
            length = 0;
            faultFound = 0;
            faultPlace = NONE;
            sizes = new int[SORTS];
            countries = new Country[MOST_OF_SORT];
            rows = new Rows[SORTS * MOST_OF_SORT];
        }

        void addWord(int word) {
            for (int shift = 24; shift >= 0; shift -= 8) {
                if (length >= 0 && length < MOST_BYTES) {
                    tape[length] = (byte) (word >>> shift);
                    length++;
                }
            }
        }

        int sizeOf(int sort) {
            return pick(sizes, SORTS, sort);
        }

        /** Where a text of a sort would go: a further place for at NONE; NO_SUCH if nowhere. */
        int slotFor(int sort, int at) {
            int size = sizeOf(sort);
            if (at == NONE) {
                return size < MOST_OF_SORT ? size : NO_SUCH;
            }
            return at >= 0 && at < size ? at : NO_SUCH;
        }

        Country countryAt(int at) {
            return at >= 0 && at < sizes[0] && at < MOST_OF_SORT ? countries[at] : null;
        }

        Rows rowsAt(int sort, int at) {
            return at >= 0 && at < sizeOf(sort) && at < MOST_OF_SORT ? rows[MOST_OF_SORT * sort + at] : null;
        }

        void putCountry(int slot, Country land) {
            if (slot >= 0 && slot < MOST_OF_SORT) {
                countries[slot] = land;
                grow(0, slot);
            }
        }

        void putRows(int sort, int slot, Rows told) {
            if (sort >= 0 && sort < SORTS && slot >= 0 && slot < MOST_OF_SORT) {
                rows[MOST_OF_SORT * sort + slot] = told;
                grow(sort, slot);
            }
        }

        private void grow(int sort, int slot) {
            if (slot == sizes[sort]) {
                sizes[sort]++;
            }
        }

        void copy(Told other) {
            System.arraycopy(other.tape, 0, tape, 0, MOST_BYTES);
            length = other.length;
            faultFound = other.faultFound;
            faultPlace = other.faultPlace;
            System.arraycopy(other.sizes, 0, sizes, 0, SORTS);
            for (int i = 0; i < MOST_OF_SORT; i++) {
                countries[i] = other.countries[i];
            }
            for (int i = 0; i < SORTS * MOST_OF_SORT; i++) {
                rows[i] = other.rows[i];
            }
        }
    }

    /** DEEDS, VIEWS or FACTS: rows of a kind and up to two numbers, as the text has them. */
    private static final class Rows {
        final int[] kinds;
        final int[] firsts;
        final int[] seconds;
        int size;

        Rows(int most) {
            int room = Math.max(0, most);
            kinds = new int[room];
            firsts = new int[room];
            seconds = new int[room];
            size = 0;
        }

        void add(int kind, int first, int second) {
            if (size >= 0 && size < kinds.length) {
                kinds[size] = kind;
                firsts[size] = first;
                seconds[size] = second;
                size++;
            }
        }

        int answer(int k, int what) {
            switch (what) {
                case 0:
                    return pick(kinds, size, k);
                case 1:
                    return pick(firsts, size, k);
                case 2:
                    return pick(seconds, size, k);
                default:
                    return NO_SUCH;
            }
        }
    }

    /** A COUNTRY as told, with what follows from it at once: who RESTS above whom, who is near whom. */
    private static final class Country {
        static final int MOST_THINGS = 8;
        static final int MOST_PATHS = 12;
        static final int MOST_EYES = 4;

        int things;
        final int[] solid;
        final int[] weight;
        final int[] thins;
        final int[] rests;
        final int[] above;
        final int[] near;
        int paths;
        final int[] pathFrom;
        final int[] pathTo;
        int lefts;
        int rights;
        final int[] leftSight;
        final int[] rightSight;
        int couples;
        final int[] coupleLeft;
        final int[] coupleRight;
        final int[] likes;
        final int[] liked;
        int hand;

        Country() {
            solid = new int[MOST_THINGS];
            weight = new int[MOST_THINGS];
            thins = new int[MOST_THINGS];
            rests = new int[MOST_THINGS];
            above = new int[MOST_THINGS];
            near = new int[MOST_THINGS];
            pathFrom = new int[MOST_PATHS];
            pathTo = new int[MOST_PATHS];
            leftSight = new int[MOST_EYES];
            rightSight = new int[MOST_EYES];
            coupleLeft = new int[MOST_EYES];
            coupleRight = new int[MOST_EYES];
            likes = new int[MOST_EYES * MOST_EYES];
            liked = new int[MOST_EYES * MOST_EYES];
            hand = 3;
            for (int t = 0; t < MOST_THINGS; t++) {
                rests[t] = NONE;
            }
        }

        boolean hasThing(int thing) {
            return thing >= 0 && thing < things;
        }

        void addThing(int itsSolid, int itsWeight, int itsThins) {
            if (things < MOST_THINGS) {
                solid[things] = itsSolid;
                weight[things] = itsWeight;
                thins[things] = itsThins;
                things++;
            }
        }

        void restOn(int thing, int which) {
            if (thing >= 0 && thing < MOST_THINGS) {
                rests[thing] = which;
            }
        }

        void addPath(int from, int to) {
            if (paths < MOST_PATHS && isPlace(from) && isPlace(to)) {
                pathFrom[paths] = from;
                pathTo[paths] = to;
                paths++;
                near[from] |= 1 << to;
                near[to] |= 1 << from;
            }
        }

        void addLeft(int sight) {
            if (lefts < MOST_EYES) {
                leftSight[lefts] = sight;
                lefts++;
            }
        }

        void addRight(int sight) {
            if (rights < MOST_EYES) {
                rightSight[rights] = sight;
                rights++;
            }
        }

        void addCouple(int left, int right) {
            if (couples < MOST_EYES) {
                coupleLeft[couples] = left;
                coupleRight[couples] = right;
                couples++;
            }
        }

        static void like(int[] row, int who, int whom, int much) {
            if (who >= 0 && who < MOST_EYES && whom >= 0 && whom < MOST_EYES) {
                row[MOST_EYES * who + whom] = much;
            }
        }

        private static boolean isPlace(int thing) {
            return thing >= 0 && thing < MOST_THINGS;
        }

        /** Goes down from each THING; true if one of these ways has no end. */
        boolean hasRing() {
            for (int t = 0; t < things; t++) {
                int down = t;
                for (int step = 0; step < MOST_THINGS && hasThing(down); step++) {
                    down = rests[down];
                }
                if (hasThing(down)) {
                    return true;
                }
            }
            return false;
        }

        boolean sharesEye() {
            for (int c = 0; c < couples; c++) {
                for (int d = 0; d < c; d++) {
                    if (coupleLeft[c] == coupleLeft[d] || coupleRight[c] == coupleRight[d]) {
                        return true;
                    }
                }
            }
            return false;
        }

        /** To be called once all is told and there is no ring. */
        void findAbove() {
            for (int t = 0; t < things; t++) {
                int down = rests[t];
                for (int step = 0; step < MOST_THINGS && hasThing(down); step++) {
                    above[down] |= 1 << t;
                    down = rests[down];
                }
            }
        }

        int sightOfLeft(int couple) {
            return Math.max(0, pick(leftSight, lefts, pick(coupleLeft, couples, couple)));
        }

        int sightOfRight(int couple) {
            return Math.max(0, pick(rightSight, rights, pick(coupleRight, couples, couple)));
        }

        int answer(int what) {
            if (what < 10) {
                return sizeOf(what);
            }
            if (what < 50) {
                return ofThing(what / 10, what % 10);
            }
            if (what < 90) {
                return ofEyeOrCouple(what / 10, what % 10);
            }
            if (what >= 100 && what < 120) {
                return pick(pathFrom, paths, what - 100);
            }
            if (what >= 120 && what < 140) {
                return pick(pathTo, paths, what - 120);
            }
            if (what >= 140 && what < 160) {
                return ofLikes(likes, lefts, rights, what - 140);
            }
            if (what >= 160 && what < 180) {
                return ofLikes(liked, rights, lefts, what - 160);
            }
            return NO_SUCH;
        }

        private int sizeOf(int what) {
            switch (what) {
                case 0:
                    return things;
                case 1:
                    return paths;
                case 2:
                    return lefts;
                case 3:
                    return rights;
                case 4:
                    return couples;
                case 5:
                    return hand;
                default:
                    return NO_SUCH;
            }
        }

        private int ofThing(int tens, int thing) {
            switch (tens) {
                case 1:
                    return pick(solid, things, thing);
                case 2:
                    return pick(weight, things, thing);
                case 3:
                    return pick(thins, things, thing);
                default:
                    return pick(rests, things, thing);
            }
        }

        private int ofEyeOrCouple(int tens, int at) {
            switch (tens) {
                case 5:
                    return pick(leftSight, lefts, at);
                case 6:
                    return pick(rightSight, rights, at);
                case 7:
                    return pick(coupleLeft, couples, at);
                default:
                    return pick(coupleRight, couples, at);
            }
        }

        private static int ofLikes(int[] row, int whos, int whoms, int at) {
            boolean told = at >= 0 && at / MOST_EYES < whos && at % MOST_EYES < whoms;
            return told ? pick(row, row.length, at) : NO_SUCH;
        }
    }

    /** Reads the tape as a text: lines of a kind and up to three numbers, or the FAULT. */
    private static final class Reader {
        // Kinds of lines of all sorts, in a row: 0 .. 8 COUNTRY, 9 .. 13 YEAR, 14 .. 16 SIGHTS, 17 .. 19 QUARRELS.
        static final int THING = 0;
        static final int RESTS = 1;
        static final int PATH = 2;
        static final int COUPLE = 3;
        static final int LEFT = 4;
        static final int RIGHT = 5;
        static final int HAND = 6;
        static final int LIKES = 7;
        static final int LIKED = 8;
        static final int KINDS = 20;
        static final int[] FIRST_KIND = {0, 9, 14, 17};

        /** The greatest each number of a line may be, three for each kind; NONE: no such number. */
        static final int[] TOPS = {
            99, 9, 9, 7, 7, -1, 7, 7, -1, 3, 3, -1, 9, -1, -1, 9, -1, -1, 9, -1, -1, 3, 3, 9, 3, 3, 9,
            3, 7, -1, 3, -1, -1, 3, -1, -1, 7, -1, -1, -1, -1, -1,
            9, -1, -1, 9, -1, -1, 9, -1, -1,
            3, 7, -1, 7, -1, -1, 7, -1, -1};
        /** What a number of a COUNTRY's line tells of: 1 a THING, 2 a LEFT, 3 a RIGHT one. */
        static final int[] TELLS_OF = {
            0, 0, 0, 1, 1, 0, 1, 1, 0, 2, 3, 0, 0, 0, 0, 0, 0, 0, 0, 0, 0, 2, 3, 0, 3, 2, 0};
        /** Which kinds are counted together; NONE: as many as one likes. */
        static final int[] GROUPS = {0, -1, 1, 2, 3, 4, -1, -1, -1, 5, 5, 5, 5, 5, 6, 6, 6, 7, 7, 7};
        static final int[] MOST_OF_GROUP = {8, 12, 4, 4, 4, 40, 8, 16};
        /** The most rows that a text of each sort can tell. */
        static final int[] MOST_ROWS = {0, 40, 8, 16};

        // The shortest line, "hour;", takes five bytes of the tape's 600.
        static final int MOST_LINES = 120;

        static final int TOKEN_END = 0;
        static final int TOKEN_WORD = 1;
        static final int TOKEN_NUMBER = 2;
        static final int TOKEN_STOP = 3;
        static final int TOKEN_WRONG = 4;

        final int[] kinds;
        final int[] places;
        final int[] numbers;
        final int[] numberPlaces;
        final int[] toldOfGroup;
        int lines;
        int sort;
        byte[] tape;
        int length;
        int at;
        int token;
        int tokenPlace;
        int tokenValue;
        int faultFound;
        int faultPlace;

        Reader() {
            kinds = new int[MOST_LINES];
            places = new int[MOST_LINES];
            numbers = new int[3 * MOST_LINES];
            numberPlaces = new int[3 * MOST_LINES];
            toldOfGroup = new int[MOST_OF_GROUP.length];
            tape = null;
        }

        void read(byte[] bytes, int size, int ofSort) {
            tape = bytes;
            length = bytes == null ? 0 : Math.min(size, bytes.length);
            sort = ofSort >= 0 && ofSort < FIRST_KIND.length ? ofSort : 0;
            at = 0;
            lines = 0;
            faultFound = 0;
            faultPlace = NONE;
            readLines();
            if (faultFound == 0) {
                checkLines();
            }
        }

        private void find(int number, int place) {
            faultFound = number;
            faultPlace = place;
        }

        private int byteAt(int place) {
            return tape != null && place >= 0 && place < length && place < tape.length ? tape[place] & 255 : NONE;
        }

        private static boolean isLetter(int sign) {
            return sign >= 'a' && sign <= 'z';
        }

        private static boolean isDigit(int sign) {
            return sign >= '0' && sign <= '9';
        }

        private void nextToken() {
            while (at < length && (byteAt(at) == 10 || byteAt(at) == 32)) {
                at++;
            }
            tokenPlace = at;
            int sign = byteAt(at);
            if (sign == NONE) {
                token = TOKEN_END;
            } else if (isLetter(sign)) {
                readWord();
            } else if (isDigit(sign)) {
                readNumber();
            } else {
                token = sign == ';' ? TOKEN_STOP : TOKEN_WRONG;
                at++;
            }
        }

        private void readWord() {
            while (at < length && isLetter(byteAt(at))) {
                at++;
            }
            token = TOKEN_WORD;
        }

        private void readNumber() {
            tokenValue = 0;
            while (at < length && isDigit(byteAt(at))) {
                tokenValue = 10 * tokenValue + byteAt(at) - '0';
                at++;
            }
            token = at - tokenPlace <= 2 ? TOKEN_NUMBER : TOKEN_WRONG;
        }

        private void readLines() {
            nextToken();
            for (int line = 0; line < MOST_LINES && token != TOKEN_END && faultFound == 0; line++) {
                readLine(line);
            }
        }

        private void readLine(int line) {
            int kind = token == TOKEN_WORD ? kindOfWord() : NONE;
            if (kind == NONE) {
                find(1, tokenPlace);
                return;
            }
            kinds[line] = kind;
            places[line] = tokenPlace;
            nextToken();
            for (int i = 0; i < 3 && top(kind, i) != NONE; i++) {
                if (token != TOKEN_NUMBER) {
                    find(1, tokenPlace);
                    return;
                }
                numbers[3 * line + i] = tokenValue;
                numberPlaces[3 * line + i] = tokenPlace;
                nextToken();
            }
            if (token != TOKEN_STOP) {
                find(1, tokenPlace);
                return;
            }
            lines = line + 1;
            nextToken();
        }

        private static int top(int kind, int i) {
            return kind >= 0 && kind < KINDS && i >= 0 && i < 3 ? TOPS[3 * kind + i] : NONE;
        }

        private static String wordsOf(int sort) {
            switch (sort) {
                case 0:
                    return "thing rests path couple left right hand likes liked ";
                case 1:
                    return "look words peace mirror hour ";
                case 2:
                    return "straight right left ";
                default:
                    return "looked shimmers still ";
            }
        }

        private int kindOfWord() {
            String words = wordsOf(sort);
            int kind = FIRST_KIND[sort];
            int start = 0;
            for (int i = 0; i < words.length(); i++) {
                if (words.charAt(i) == ' ') {
                    if (isToken(words, start, i)) {
                        return kind;
                    }
                    kind++;
                    start = i + 1;
                }
            }
            return NONE;
        }

        private boolean isToken(String words, int from, int to) {
            if (to - from != at - tokenPlace) {
                return false;
            }
            for (int i = from; i < to; i++) {
                if (words.charAt(i) != byteAt(tokenPlace + i - from)) {
                    return false;
                }
            }
            return true;
        }

        /** FAULTS 2 and 3; a line's word stands ahead of its numbers, so the first one found is first by place. */
        private void checkLines() {
            for (int g = 0; g < toldOfGroup.length; g++) {
                toldOfGroup[g] = 0;
            }
            for (int line = 0; line < lines && line < MOST_LINES && faultFound == 0; line++) {
                checkRoom(line);
                for (int i = 0; i < 3 && faultFound == 0; i++) {
                    if (!canBe(line, i)) {
                        find(2, numberPlaces[3 * line + i]);
                    }
                }
            }
        }

        private void checkRoom(int line) {
            int group = pick(GROUPS, KINDS, kinds[line]);
            if (group < 0 || group >= toldOfGroup.length) {
                return;
            }
            toldOfGroup[group]++;
            if (toldOfGroup[group] > MOST_OF_GROUP[group]) {
                find(3, places[line]);
            }
        }

        private boolean canBe(int line, int i) {
            int kind = kinds[line];
            int most = top(kind, i);
            if (most == NONE) {
                return true;
            }
            int number = numbers[3 * line + i];
            int least = kind == LEFT || kind == RIGHT ? 1 : 0;
            boolean onItself = (kind == RESTS || kind == PATH) && i == 1 && number == numbers[3 * line];
            return number >= least && number <= most && !onItself;
        }

        /** The lines as a COUNTRY; FAULTS 4 to 6 are found here. */
        Country toCountry() {
            Country land = new Country();
            for (int line = 0; line < lines && line < MOST_LINES; line++) {
                int first = numbers[3 * line];
                int second = numbers[3 * line + 1];
                tellLine(land, kinds[line], first, second, numbers[3 * line + 2]);
            }
            if (tellsOfNobody(land)) {
                find(4, length);
            } else if (land.hasRing()) {
                find(5, length);
            } else if (land.sharesEye()) {
                find(6, length);
            } else {
                land.findAbove();
            }
            return land;
        }

        private static void tellLine(Country land, int kind, int first, int second, int third) {
            switch (kind) {
                case THING:
                    land.addThing(first, second, third);
                    break;
                case RESTS:
                    land.restOn(first, second);
                    break;
                case PATH:
                    land.addPath(first, second);
                    break;
                case COUPLE:
                    land.addCouple(first, second);
                    break;
                case LEFT:
                    land.addLeft(first);
                    break;
                case RIGHT:
                    land.addRight(first);
                    break;
                case HAND:
                    land.hand = first;
                    break;
                case LIKES:
                    Country.like(land.likes, first, second, third);
                    break;
                case LIKED:
                    Country.like(land.liked, first, second, third);
                    break;
                default:
                    break;
            }
        }

        /** Whether a THING or an eye was told of, though it be in a line that a later one strikes, that is not there. */
        private boolean tellsOfNobody(Country land) {
            for (int line = 0; line < lines && line < MOST_LINES; line++) {
                for (int i = 0; i < 3; i++) {
                    int whom = pick(TELLS_OF, TELLS_OF.length, 3 * kinds[line] + i);
                    int number = numbers[3 * line + i];
                    boolean missing = whom == 1 && number >= land.things
                        || whom == 2 && number >= land.lefts
                        || whom == 3 && number >= land.rights;
                    if (missing) {
                        return true;
                    }
                }
            }
            return false;
        }

        /** The lines of a YEAR, SIGHTS or QUARRELS. */
        Rows toRows() {
            Rows rows = new Rows(MOST_ROWS[sort]);
            for (int line = 0; line < lines && line < MOST_LINES; line++) {
                int kind = kinds[line];
                int first = top(kind, 0) == NONE ? NONE : numbers[3 * line];
                int second = top(kind, 1) == NONE ? NONE : numbers[3 * line + 1];
                rows.add(kind - FIRST_KIND[sort], first, second);
            }
            return rows;
        }
    }

    /** A COUNTRY in the course of a YEAR: what is SOLID now, who is GONE, who looks. */
    private static final class Scene {
        static final int MOST_HOURS = 99;
        static final int MOST_SOLID = 99;
        static final int MOST_WEIGHT = 9;
        static final int LOOK = 0;
        static final int WORDS = 1;
        static final int PEACE = 2;
        static final int MIRROR = 3;

        Country land;
        final int[] solid;
        final int[] weight;
        final int[] looks;
        final int[] widths;
        int hour;
        int gone;
        int goneAtFirst;
        int quarrelling;
        int forged;
        int lookers;
        int lookedAt;
        int giants;
        int firstLoss;
        int seed;

        Scene(Country empty) {
            land = empty;
            solid = new int[Country.MOST_THINGS];
            weight = new int[Country.MOST_THINGS];
            widths = new int[Country.MOST_THINGS];
            looks = new int[Country.MOST_EYES];
        }

        void begin(Country told) {
            load(told);
            fall();
            goneAtFirst = gone;
        }

        private void load(Country told) {
            land = told;
            System.arraycopy(told.solid, 0, solid, 0, Country.MOST_THINGS);
            System.arraycopy(told.weight, 0, weight, 0, Country.MOST_THINGS);
            for (int c = 0; c < looks.length; c++) {
                looks[c] = 0;
            }
            hour = 0;
            gone = 0;
            goneAtFirst = 0;
            quarrelling = 0;
            forged = 0;
            lookers = 0;
            lookedAt = 0;
            giants = 0;
            firstLoss = NONE;
        }

        /** As another scene of the same COUNTRY is, as far as an hour and its looks go. */
        void copy(Scene other) {
            land = other.land;
            System.arraycopy(other.solid, 0, solid, 0, Country.MOST_THINGS);
            System.arraycopy(other.weight, 0, weight, 0, Country.MOST_THINGS);
            hour = other.hour;
            gone = other.gone;
            quarrelling = other.quarrelling;
            lookers = other.lookers;
            lookedAt = other.lookedAt;
        }

        boolean isThere(int thing) {
            return land.hasThing(thing) && !hasBit(gone, thing);
        }

        int there() {
            return (1 << land.things) - 1 & ~gone;
        }

        /** Those there that REST on a THING, on these, and so on, as bits. */
        int restingOn(int thing) {
            return land.hasThing(thing) ? land.above[thing] & ~gone : 0;
        }

        int bears(int thing) {
            if (thing < 0 || thing >= land.things) {
                return 0;
            }
            int resting = land.above[thing] & ~gone;
            int sum = 0;
            for (int t = 0; t < land.things && resting != 0; t++) {
                sum += (resting & 1) == 0 ? 0 : weight[t];
                resting >>>= 1;
            }
            return sum;
        }

        /** Each round takes one THING at least, so there are no more rounds than THINGS. */
        private void fall() {
            for (int round = 0; round < Country.MOST_THINGS; round++) {
                int weak = NONE;
                for (int t = 0; t < land.things && weak == NONE; t++) {
                    if ((gone >>> t & 1) == 0 && (solid[t] <= 0 || solid[t] < bears(t))) {
                        weak = t;
                    }
                }
                if (weak == NONE) {
                    return;
                }
                gone |= 1 << weak | land.above[weak];
            }
        }

        /** Does the first n DEEDS, up to one that can't be: how many were done. */
        int live(Rows year, int n) {
            int last = Math.min(n, year.size);
            for (int k = 0; k < last; k++) {
                int before = gone;
                if (!act(year.answer(k, 0), year.answer(k, 1), year.answer(k, 2))) {
                    return k;
                }
                if (gone != before && firstLoss == NONE) {
                    firstLoss = k;
                }
            }
            return last;
        }

        /** Does a DEED, if it can be: whether it could. */
        boolean act(int kind, int first, int second) {
            switch (kind) {
                case LOOK:
                    return look(first, second);
                case WORDS:
                    return quarrel(first);
                case PEACE:
                    return reconcile(first);
                case MIRROR:
                    return forge(first);
                default:
                    return hour < MOST_HOURS && passHour();
            }
        }

        boolean look(int couple, int thing) {
            boolean may = couple >= 0 && couple < land.couples && couple < looks.length && isThere(thing)
                && !hasBit(quarrelling, couple) && !hasBit(lookers, couple);
            if (!may) {
                return false;
            }
            int left = land.sightOfLeft(couple);
            int right = land.sightOfRight(couple);
            solid[thing] = Math.min(MOST_SOLID, solid[thing] + left + right);
            if (Math.abs(left - right) > land.hand) {
                weight[thing] = Math.min(MOST_WEIGHT, weight[thing] + 1);
                giants |= 1 << thing;
            }
            lookers |= 1 << couple;
            lookedAt |= 1 << thing;
            looks[couple]++;
            return true;
        }

        private boolean quarrel(int couple) {
            if (couple < 0 || couple >= land.couples || hasBit(quarrelling, couple)) {
                return false;
            }
            quarrelling |= 1 << couple;
            return true;
        }

        private boolean reconcile(int couple) {
            if (couple < 0 || couple >= land.couples || !hasBit(quarrelling, couple)) {
                return false;
            }
            quarrelling &= ~(1 << couple);
            return true;
        }

        private boolean forge(int thing) {
            if (!isThere(thing)) {
                return false;
            }
            solid[thing] = Math.min(MOST_SOLID, 2 * solid[thing]);
            forged |= 1 << thing;
            return true;
        }

        /** Always true: an hour can go by whatever is. */
        boolean passHour() {
            for (int t = 0; t < land.things; t++) {
                if (!hasBit(gone | lookedAt, t)) {
                    solid[t] = Math.max(0, solid[t] - land.thins[t]);
                }
            }
            fall();
            lookers = 0;
            lookedAt = 0;
            hour++;
            return true;
        }

        int answer(int what) {
            switch (what) {
                case 0:
                    return hour;
                case 1:
                    return gone;
                case 2:
                    return quarrelling;
                case 3:
                    return forged;
                case 4:
                    return lookers;
                default:
                    return what < 10 ? NO_SUCH : ofThing(what / 10, what % 10);
            }
        }

        private int ofThing(int tens, int thing) {
            if (tens > 3 || !land.hasThing(thing)) {
                return NO_SUCH;
            }
            if (!isThere(thing)) {
                return 0;
            }
            if (tens == 3) {
                return bears(thing);
            }
            return tens == 1 ? solid[thing] : weight[thing];
        }

        int busiest() {
            int best = NONE;
            int most = 0;
            for (int c = 0; c < looks.length; c++) {
                if (looks[c] > most) {
                    best = c;
                    most = looks[c];
                }
            }
            return best;
        }

        private int below(int n) {
            seed = seed * 1103515245 + 12345;
            return n > 0 ? (seed >>> 16) % n : 0;
        }

        /** A DEED drawn by the seed is done, if it may. */
        void drawDeed() {
            int die = below(8);
            boolean needsCouple = die <= 4;
            boolean needsThing = die <= 2 || die == 5;
            if (needsCouple && land.couples == 0 || needsThing && land.things == 0) {
                return;
            }
            int couple = needsCouple ? below(land.couples) : NONE;
            int thing = needsThing ? below(land.things) : NONE;
            if (die <= 2) {
                act(LOOK, couple, thing);
            } else {
                act(Math.min(die, 6) - 2, needsCouple ? couple : thing, NONE);
            }
        }

        /** Whether a THING that is told with another SOLID is there behind n hours. */
        boolean staysWith(Country told, int thing, int itsSolid, int n) {
            load(told);
            if (!land.hasThing(thing)) {
                return false;
            }
            solid[thing] = itsSolid;
            fall();
            for (int i = 0; i < n && isThere(thing); i++) {
                passHour();
            }
            return isThere(thing);
        }

        /** The THINGS that one can be on who was on one of these, along one PATH or none. */
        private int spread(int bits) {
            int reach = bits;
            for (int t = 0; t < land.things; t++) {
                if (hasBit(bits, t)) {
                    reach |= land.near[t];
                }
            }
            return reach;
        }

        int fewestHours(int from, int to) {
            int reach = 1 << from & there();
            for (int hours = 0; hours <= MOST_HOURS && reach != 0; hours++) {
                if (hasBit(reach, to)) {
                    return hours;
                }
                reach = spread(reach);
                passHour();
                reach &= there();
            }
            return NONE;
        }

        int fewestHoursToMeet(int a, int b) {
            int reachA = 1 << a & there();
            int reachB = 1 << b & there();
            for (int hours = 0; hours <= MOST_HOURS && reachA != 0 && reachB != 0; hours++) {
                if ((reachA & reachB) != 0) {
                    return hours;
                }
                reachA = spread(reachA);
                reachB = spread(reachB);
                passHour();
                reachA &= there();
                reachB &= there();
            }
            return NONE;
        }

        /** A THING's width is the least SOLID on the best way to it that is known so far; 0: none is. */
        int surest(int from, int to) {
            if (!isThere(from) || !isThere(to)) {
                return NONE;
            }
            for (int t = 0; t < widths.length; t++) {
                widths[t] = t == from ? solid[t] : 0;
            }
            for (int round = 0; round < Country.MOST_THINGS; round++) {
                for (int p = 0; p < land.paths; p++) {
                    widen(land.pathFrom[p], land.pathTo[p]);
                    widen(land.pathTo[p], land.pathFrom[p]);
                }
            }
            return widths[to] > 0 ? widths[to] : NONE;
        }

        private void widen(int from, int to) {
            if (isThere(from) && isThere(to)) {
                widths[to] = Math.max(widths[to], Math.min(widths[from], solid[to]));
            }
        }

        int highest() {
            int most = 0;
            for (int t = 0; t < land.things; t++) {
                int row = 0;
                int down = t;
                for (int step = 0; step < Country.MOST_THINGS && isThere(down); step++) {
                    row++;
                    down = land.rests[down];
                }
                most = Math.max(most, row);
            }
            return most;
        }

        /** All that is joined to a THING by PATHS over THINGS that are there. */
        private int partOf(int thing) {
            int part = 1 << thing & there();
            for (int round = 0; round < Country.MOST_THINGS; round++) {
                part = spread(part) & there();
            }
            return part;
        }

        int countParts() {
            int parts = 0;
            int seen = 0;
            for (int t = 0; t < land.things; t++) {
                if (isThere(t) && !hasBit(seen, t)) {
                    seen |= partOf(t);
                    parts++;
                }
            }
            return parts;
        }

        int largestPart() {
            int most = 0;
            for (int t = 0; t < land.things; t++) {
                most = Math.max(most, Integer.bitCount(partOf(t)));
            }
            return most;
        }
    }

    /** Tries all rows of what each COUPLE might look at in one hour, for WATCH and for SERVED. */
    private static final class Watchers {
        static final int NOTHING = 8;

        // Scene c is behind the looks of the COUPLES below c; one more for the hour that is tried.
        final Scene[] scenes;
        final Scene trial;
        final int[] row;
        final int[] best;
        Country searched;
        int mostThings;
        int mostSolid;
        int fewestLooks;

        Watchers(Country empty) {
            scenes = new Scene[Country.MOST_EYES + 1];
            for (int c = 0; c < scenes.length; c++) {
                scenes[c] = new Scene(empty);
            }
            trial = new Scene(empty);
            row = new int[Country.MOST_EYES];
            best = new int[Country.MOST_EYES];
            searched = null;
        }

        /** A COUNTRY never changes once told, and is often asked for COUPLE by COUPLE: it is searched but once. */
        void search(Country land) {
            if (land == searched) {
                return;
            }
            searched = land;
            mostThings = NONE;
            mostSolid = NONE;
            fewestLooks = NONE;
            scenes[0].begin(land);
            tryFrom(this, 0, 0);
        }

        int chosen(int couple) {
            return pick(best, best.length, couple);
        }

        /** Rows come in rising order, so that the first of the best ones is kept. */
        private static void tryFrom(Watchers all, int couple, int looks) {
            Scene scene = all.scenes[couple];
            if (couple >= scene.land.couples || couple >= Country.MOST_EYES) {
                all.judge(scene, looks);
                return;
            }
            Scene next = all.scenes[couple + 1];
            for (int t = 0; t < scene.land.things; t++) {
                if (!hasBit(scene.gone | scene.lookedAt, t)) {
                    next.copy(scene);
                    next.look(couple, t);
                    all.row[couple] = t;
                    tryFrom(all, couple + 1, looks + 1);
                }
            }
            next.copy(scene);
            all.row[couple] = NOTHING;
            tryFrom(all, couple + 1, looks);
        }

        private void judge(Scene scene, int looks) {
            trial.copy(scene);
            trial.passHour();
            int stay = Integer.bitCount(trial.there());
            int solid = 0;
            for (int t = 0; t < trial.land.things; t++) {
                solid += hasBit(trial.gone, t) ? 0 : trial.solid[t];
            }
            if (stay > mostThings || stay == mostThings && solid > mostSolid) {
                mostThings = stay;
                mostSolid = solid;
                System.arraycopy(row, 0, best, 0, Country.MOST_EYES);
            }
            boolean allStay = trial.gone == scene.gone;
            if (allStay && (fewestLooks == NONE || looks < fewestLooks)) {
                fewestLooks = looks;
            }
        }
    }

    /** LEFT and RIGHT eyes: who has whom. */
    private static final class Eyes {
        final int[] leftHas;
        final int[] rightHas;
        final int[] asked;

        Eyes() {
            leftHas = new int[Country.MOST_EYES];
            rightHas = new int[Country.MOST_EYES];
            asked = new int[Country.MOST_EYES];
        }

        private void part() {
            for (int i = 0; i < Country.MOST_EYES; i++) {
                leftHas[i] = NONE;
                rightHas[i] = NONE;
                asked[i] = 0;
            }
        }

        void marry(Country land) {
            part();
            for (int asks = 0; asks < Country.MOST_EYES * Country.MOST_EYES; asks++) {
                int left = firstWhoAsks(land);
                if (left == NONE) {
                    return;
                }
                ask(land, left, favourite(land, left));
            }
        }

        private int firstWhoAsks(Country land) {
            for (int l = 0; l < land.lefts; l++) {
                if (leftHas[l] == NONE && favourite(land, l) != NONE) {
                    return l;
                }
            }
            return NONE;
        }

        /** Whom a LEFT one LIKES most of those that it has not asked. */
        private int favourite(Country land, int left) {
            int best = NONE;
            int most = NONE;
            for (int r = 0; r < land.rights; r++) {
                int much = leftLikes(land, left, r);
                if (!hasBit(asked[left], r) && much > most) {
                    best = r;
                    most = much;
                }
            }
            return best;
        }

        private void ask(Country land, int left, int right) {
            if (right < 0 || right >= Country.MOST_EYES) {
                return;
            }
            asked[left] |= 1 << right;
            int rival = rightHas[right];
            int more = rival == NONE ? 1 : rightLikes(land, right, left) - rightLikes(land, right, rival);
            if (more > 0 || more == 0 && left < rival) {
                leftHas[left] = right;
                rightHas[right] = left;
                if (rival >= 0 && rival < Country.MOST_EYES) {
                    leftHas[rival] = NONE;
                }
            }
        }

        private static int leftLikes(Country land, int left, int right) {
            return pick(land.likes, land.likes.length, Country.MOST_EYES * left + right);
        }

        private static int rightLikes(Country land, int right, int left) {
            return pick(land.liked, land.liked.length, Country.MOST_EYES * right + left);
        }

        int countUnhappy(Country land) {
            part();
            for (int c = 0; c < land.couples; c++) {
                couple(land.coupleLeft[c], land.coupleRight[c]);
            }
            int pairs = 0;
            for (int l = 0; l < land.lefts; l++) {
                for (int r = 0; r < land.rights; r++) {
                    if (leftHas[l] != r && leftWould(land, l, r) && rightWould(land, r, l)) {
                        pairs++;
                    }
                }
            }
            return pairs;
        }

        private void couple(int left, int right) {
            if (left >= 0 && left < Country.MOST_EYES && right >= 0 && right < Country.MOST_EYES) {
                leftHas[left] = right;
                rightHas[right] = left;
            }
        }

        private boolean leftWould(Country land, int left, int right) {
            int has = leftHas[left];
            return has == NONE || leftLikes(land, left, right) > leftLikes(land, left, has);
        }

        private boolean rightWould(Country land, int right, int left) {
            int has = rightHas[right];
            return has == NONE || rightLikes(land, right, left) > rightLikes(land, right, has);
        }

        /** PAIRED. Bit m of sets: the RIGHT ones of m can all be paired with LEFT ones so far. */
        static int mostPairs(Country land) {
            int sets = 1;
            for (int l = 0; l < land.lefts; l++) {
                sets = withOneMore(land, l, sets);
            }
            int most = 0;
            for (int m = 0; m < 16; m++) {
                if (hasBit(sets, m)) {
                    most = Math.max(most, Integer.bitCount(m));
                }
            }
            return most;
        }

        private static int withOneMore(Country land, int left, int sets) {
            int more = sets;
            for (int r = 0; r < land.rights; r++) {
                if (Math.abs(land.leftSight[left] - land.rightSight[r]) <= land.hand) {
                    for (int m = 0; m < 16; m++) {
                        if (hasBit(sets, m) && !hasBit(m, r)) {
                            more |= 1 << (m | 1 << r);
                        }
                    }
                }
            }
            return more;
        }
    }

    /** The field of ten COLUMNS by ten ROWS, and which of its CELLS FIT. */
    private static final class Field {
        static final int CELLS = 100;
        static final int STRAIGHT = 0;
        static final int TO_THE_RIGHT = 1;

        final int[] cells;
        int size;

        Field() {
            cells = new int[CELLS];
            size = 0;
        }

        static boolean isError(int error) {
            return error >= 0 && error <= 3;
        }

        int cellAt(int k) {
            return pick(cells, size, k);
        }

        /** The CELLS that FIT by all VIEWS but one (NONE: by all). */
        void gather(Rows views, int error, int without) {
            size = 0;
            for (int cell = 0; cell < CELLS; cell++) {
                if (fitsAll(views, error, without, cell)) {
                    cells[size] = cell;
                    size++;
                }
            }
        }

        private static boolean fitsAll(Rows views, int error, int without, int cell) {
            for (int k = 0; k < views.size; k++) {
                if (k != without && !crosses(views.kinds[k], views.firsts[k], error, cell)) {
                    return false;
                }
            }
            return true;
        }

        private static boolean crosses(int way, int column, int error, int cell) {
            int slant = cell / 10 + 1;
            int crossed = column;
            if (way != STRAIGHT) {
                crossed += way == TO_THE_RIGHT ? slant : -slant;
            }
            return Math.abs(cell % 10 - crossed) <= error;
        }

        /** NEXT, of the CELLS that were gathered. */
        int nextView(int error) {
            int best = NONE;
            int least = CELLS + 1;
            for (int view = 0; view < 30 && size > 0; view++) {
                int crossed = 0;
                for (int i = 0; i < size; i++) {
                    crossed += crosses(view / 10, view % 10, error, cells[i]) ? 1 : 0;
                }
                int greater = Math.max(crossed, size - crossed);
                if (greater < least) {
                    best = view;
                    least = greater;
                }
            }
            return best;
        }
    }

    /** Who had WORDS. Sets of sets: bit s tells that the set s (itself bits of COUPLES) is among them. */
    private static final class Quarrel {
        static final int LOOKED = 0;
        static final int SHIMMERS = 1;
        static final int SETS = 16;

        private static int lookersAt(Rows facts, int thing) {
            int bits = 0;
            for (int k = 0; k < facts.size; k++) {
                if (facts.kinds[k] == LOOKED && facts.seconds[k] == thing) {
                    bits |= 1 << facts.firsts[k];
                }
            }
            return bits;
        }

        static int fitting(Rows facts) {
            int sets = (1 << SETS) - 1;
            for (int k = 0; k < facts.size; k++) {
                if (facts.kinds[k] != LOOKED) {
                    int shimmering = shimmering(lookersAt(facts, facts.firsts[k]));
                    sets &= facts.kinds[k] == SHIMMERS ? shimmering : ~shimmering;
                }
            }
            return sets;
        }

        /** The sets by which a THING with such lookers SHIMMERS. */
        private static int shimmering(int lookers) {
            int sets = 0;
            for (int s = 0; s < SETS; s++) {
                if ((s & lookers) != 0) {
                    sets |= 1 << s;
                }
            }
            return sets;
        }

        static int inAll(int sets) {
            int common = sets == 0 ? NONE : SETS - 1;
            for (int s = 0; s < SETS; s++) {
                if (hasBit(sets, s)) {
                    common &= s;
                }
            }
            return common;
        }

        static int fewest(int sets) {
            int least = NONE;
            for (int s = 0; s < SETS; s++) {
                if (hasBit(sets, s) && (least == NONE || Integer.bitCount(s) < least)) {
                    least = Integer.bitCount(s);
                }
            }
            return least;
        }

        static int setAt(int sets, int k) {
            int behind = k;
            for (int s = 0; s < SETS; s++) {
                if (hasBit(sets, s)) {
                    if (behind == 0) {
                        return s;
                    }
                    behind--;
                }
            }
            return NO_SUCH;
        }

        /** TELL. */
        static int telling(Rows facts) {
            int sets = fitting(facts);
            int best = NONE;
            int least = SETS + 1;
            for (int t = 0; t < Country.MOST_THINGS && sets != 0; t++) {
                int lookers = lookersAt(facts, t);
                int yes = Integer.bitCount(sets & shimmering(lookers));
                int greater = Math.max(yes, Integer.bitCount(sets) - yes);
                if (lookers != 0 && greater < least) {
                    best = t;
                    least = greater;
                }
            }
            return best;
        }
    }
}
