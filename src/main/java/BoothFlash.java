/**
 * A photo booth with a stool, light, a price and a queue: whose picture is taken when, and what a
 * flash is refused for. The document numbers its promises; README.md says how to use the class.
 */
public final class BoothFlash {

    private static final int BEYOND = -1000001;
    private static final int FULL = -1000002;
    private static final int KIND = -1000003;
    private static final int NONE = -1000004;
    private static final int STATE = -1000005;
    private static final int MISSING = -1000006;
    private static final int SIZE = -1000007;
    private static final int FINDINGS = 7;

    private static final int SHEETS = 4;
    private static final int SPOTS = 10;
    private static final int PLACES = 6;
    private static final int MOST_SITTERS = 8;
    private static final int FLASHES = 4;
    private static final int LIGHTS = 10;
    private static final int ALL_FAULTS = 31;
    private static final int CHIN_LINE = 80;

    private static final int LAST_KIND = 6;
    private static final int MOST_MINUTE = 99999;
    private static final int FAR = 200;
    private static final int NEAR = 60;

    /* What of THE BOOTH: the numbers that set() and booth() name. */
    private static final int STOOL = 0;
    private static final int LIGHT = 1;
    private static final int PRICE = 2;
    private static final int TILL = 3;

    /* What of a SITTER: the numbers that of() and change() name. */
    private static final int OF_KIND = 0;
    private static final int TALL = 1;
    private static final int STILL = 2;
    private static final int MERRY = 3;
    private static final int COINS = 4;
    private static final int TAKEN = 5;
    private static final int TRIED = 6;
    private static final int OFF = 7;
    private static final int MAY = 8;

    private final Booth real;
    /* What will be, and a TEXT that may yet fail, is tried out here, so that no call makes objects. */
    private final Booth trial;
    private final Booth kept;
    private boolean isKept;
    private final Tape tape;
    private final Sheet[] sheets;
    private final int[] found;

    public BoothFlash() {
        real = new Booth();
        trial = new Booth();
        kept = new Booth();
        isKept = false;
        tape = new Tape();
        sheets = new Sheet[SHEETS];
        for (int s = 0; s < SHEETS; s++) {
            sheets[s] = new Sheet();
        }
        found = new int[FINDINGS];
    }

    // ---- booth, queue, sitters

    public int set(int what, int v) {
        if (!Booth.isPart(what) || !isWithin(v, Booth.mostOf(what))) {
            return finding(BEYOND);
        }
        int was = real.part(what);
        real.putPart(what, v);
        return was;
    }

    public int booth(int what) {
        return Booth.isPart(what) ? real.part(what) : finding(BEYOND);
    }

    public int queue(int place, int sitter) {
        if (!Booth.isPlace(place) || !real.isSomebodyOrNobody(sitter)) {
            return finding(BEYOND);
        }
        int was = real.whoIsIn(place);
        real.seat(place, sitter);
        return was;
    }

    public int place(int place) {
        return Booth.isPlace(place) ? real.whoIsIn(place) : finding(BEYOND);
    }

    public int sitter(int kind, int tall) {
        if (!isWithin(kind, LAST_KIND) || !isWithin(tall, Sitter.mostOf(TALL))) {
            return finding(BEYOND);
        }
        int number = real.addSitter(kind);
        if (number < 0) {
            return finding(FULL);
        }
        real.give(number, TALL, tall);
        return number;
    }

    public int of(int sitter, int what) {
        Sitter who = real.who(sitter);
        if (who == null || !isWithin(what, MAY)) {
            return finding(BEYOND);
        }
        if (what == OFF) {
            return who.off(real.stool);
        }
        return what == MAY ? who.mayBeOff() : who.part(what);
    }

    public int change(int sitter, int what, int v) {
        Sitter who = real.who(sitter);
        if (who == null || !isWithin(what, TRIED) || !isWithin(v, Sitter.mostOf(what))) {
            return finding(BEYOND);
        }
        int was = who.part(what);
        who.putPart(what, v);
        return was;
    }

    public int faults(int sitter, int f) {
        Sitter who = real.who(sitter);
        if (who == null || !isWithin(f, FLASHES - 1)) {
            return finding(BEYOND);
        }
        return real.faultsOf(who, f);
    }

    public int best(int sitter) {
        Sitter who = real.who(sitter);
        if (who == null) {
            return finding(BEYOND);
        }
        int best = 0;
        for (int f = 1; f < FLASHES; f++) {
            if (Integer.bitCount(real.faultsOf(who, f)) < Integer.bitCount(real.faultsOf(who, best))) {
                best = f;
            }
        }
        return best;
    }

    // ---- minutes

    public int go(int n) {
        if (n < 1 || n > 100) {
            return finding(BEYOND);
        }
        if (real.minute + n > MOST_MINUTE) {
            return finding(STATE);
        }
        real.passMinutes(n);
        return real.sumOf(TAKEN);
    }

    public int now(int what) {
        switch (what) {
            case 0: return real.minute;
            case 1: return real.sumOf(TAKEN);
            case 2: return real.sumOf(TRIED);
            case 3: return real.sumOf(COINS);
            case 4: return real.whoIsIn(real.nextPlace());
            case 5: return real.sittersWithClearFlash();
            case 6: return real.commonFaults();
            default: return finding(BEYOND);
        }
    }

    // ---- what will be (nothing changes)

    public int ahead(int sitter, int what, int n) {
        if (!real.isSitter(sitter) || what < STILL || what > TRIED || !isWithin(n, FAR)) {
            return finding(BEYOND);
        }
        trial.become(real);
        trial.passMinutes(n);
        return trial.partOf(sitter, what);
    }

    public int later(int what, int n) {
        if ((what != STOOL && what != TILL) || !isWithin(n, FAR)) {
            return finding(BEYOND);
        }
        trial.become(real);
        trial.passMinutes(n);
        return trial.part(what);
    }

    public int when(int sitter, int v) {
        if (!real.isSitter(sitter) || !isWithin(v, Sitter.mostOf(TAKEN))) {
            return finding(BEYOND);
        }
        trial.become(real);
        for (int minutes = 0; minutes <= FAR; minutes++) {
            if (trial.partOf(sitter, TAKEN) >= v) {
                return minutes;
            }
            trial.passMinute();
        }
        return finding(NONE);
    }

    public int broke(int sitter) {
        if (!real.isSitter(sitter)) {
            return finding(BEYOND);
        }
        trial.become(real);
        for (int minutes = 0; minutes <= FAR; minutes++) {
            if (trial.partOf(sitter, COINS) < trial.price) {
                return minutes;
            }
            trial.passMinute();
        }
        return finding(NONE);
    }

    public int all() {
        if (real.sitterCount == 0) {
            return finding(STATE);
        }
        trial.become(real);
        for (int minutes = 0; minutes <= FAR; minutes++) {
            if (trial.isEachTaken()) {
                return minutes;
            }
            trial.passMinute();
        }
        return finding(NONE);
    }

    // ---- how to sit

    public int stoolFor(int sitter) {
        if (!real.isSitter(sitter)) {
            return finding(BEYOND);
        }
        trial.become(real);
        int best = 0;
        int fewest = -1;
        for (int stool = 0; stool <= Booth.mostOf(STOOL); stool++) {
            trial.stool = stool;
            int together = trial.faultsTogether(sitter);
            if (fewest < 0 || together < fewest) {
                fewest = together;
                best = stool;
            }
        }
        return best;
    }

    public int lightFor(int sitter, int n) {
        if (!real.isSitter(sitter) || !isWithin(n, NEAR)) {
            return finding(BEYOND);
        }
        int before = real.partOf(sitter, TAKEN);
        for (int light = 0; light <= Booth.mostOf(LIGHT); light++) {
            trial.become(real);
            trial.light = light;
            trial.passMinutes(n);
            if (trial.partOf(sitter, TAKEN) > before) {
                return light;
            }
        }
        return finding(NONE);
    }

    public int turnFor(int sitter, int n) {
        if (!real.isSitter(sitter) || !isWithin(n, NEAR)) {
            return finding(BEYOND);
        }
        int best = 0;
        int most = -1;
        for (int place = 0; place < PLACES; place++) {
            trial.become(real);
            trial.seat(place, sitter);
            trial.passMinutes(n);
            int taken = trial.partOf(sitter, TAKEN);
            if (taken > most) {
                most = taken;
                best = place;
            }
        }
        return best;
    }

    public int kindFor(int sitter, int n) {
        if (!real.isSitter(sitter) || !isWithin(n, NEAR)) {
            return finding(BEYOND);
        }
        int best = 0;
        int most = -1;
        for (int kind = 0; kind <= LAST_KIND; kind++) {
            trial.become(real);
            trial.give(sitter, OF_KIND, kind);
            trial.passMinutes(n);
            int taken = trial.partOf(sitter, TAKEN);
            if (taken > most) {
                most = taken;
                best = kind;
            }
        }
        return best;
    }

    public int merryFor(int sitter, int n) {
        if (!real.isSitter(sitter) || !isWithin(n, NEAR)) {
            return finding(BEYOND);
        }
        int before = real.partOf(sitter, TAKEN);
        for (int merry = Sitter.mostOf(MERRY); merry >= 0; merry--) {
            trial.become(real);
            trial.give(sitter, MERRY, merry);
            trial.passMinutes(n);
            if (trial.partOf(sitter, TAKEN) > before) {
                return merry;
            }
        }
        return finding(NONE);
    }

    public int priceFor(int n) {
        if (!isWithin(n, NEAR)) {
            return finding(BEYOND);
        }
        int best = 0;
        int most = -1;
        for (int price = 0; price <= Booth.mostOf(PRICE); price++) {
            trial.become(real);
            trial.price = price;
            trial.passMinutes(n);
            if (trial.till > most) {
                most = trial.till;
                best = price;
            }
        }
        return best;
    }

    public int away(int sitter, int v, int n) {
        if (!real.isSitter(sitter) || !isWithin(v, Sitter.mostOf(TAKEN)) || !isWithin(n, 20)) {
            return finding(BEYOND);
        }
        int others = real.sitterSet() & ~(1 << sitter);
        int best = -1;
        for (int set = 0; set <= others; set++) {
            boolean isOfOthers = (set & ~others) == 0;
            boolean isFewer = best < 0 || Integer.bitCount(set) < Integer.bitCount(best);
            if (isOfOthers && isFewer) {
                trial.become(real);
                trial.emptyPlacesOf(set);
                trial.passMinutes(n);
                best = trial.partOf(sitter, TAKEN) >= v ? set : best;
            }
        }
        return best < 0 ? finding(NONE) : best;
    }

    // ---- what was refused

    public int fits(int s, int sitter) {
        Sheet sheet = sheetAt(s);
        if (sheet == null || sheet.isMissing() || !real.isSitter(sitter)) {
            return finding(refusalFor(sheet));
        }
        trial.become(real);
        int many = 0;
        for (int tall = 0; tall <= Sitter.mostOf(TALL); tall++) {
            if (isTallAsTold(sheet, sitter, tall)) {
                many++;
            }
        }
        return many;
    }

    public int tall(int s, int sitter) {
        Sheet sheet = sheetAt(s);
        if (sheet == null || sheet.isMissing() || !real.isSitter(sitter)) {
            return finding(refusalFor(sheet));
        }
        trial.become(real);
        for (int tall = 0; tall <= Sitter.mostOf(TALL); tall++) {
            if (isTallAsTold(sheet, sitter, tall)) {
                return tall;
            }
        }
        return finding(NONE);
    }

    public int kinds(int s, int sitter) {
        Sheet sheet = sheetAt(s);
        if (sheet == null || sheet.isMissing() || !real.isSitter(sitter)) {
            return finding(refusalFor(sheet));
        }
        int set = 0;
        for (int kind = 0; kind <= LAST_KIND; kind++) {
            if (isKindAsTold(sheet, sitter, kind)) {
                set |= 1 << kind;
            }
        }
        return set;
    }

    // ---- lamps

    public int lamps(int n) {
        if (n < 1 || n > 20) {
            return finding(BEYOND);
        }
        if (real.minute + n > MOST_MINUTE) {
            return finding(STATE);
        }
        for (int i = 0; i < n; i++) {
            real.light = real.draw() % LIGHTS;
            int drawn = real.draw() % MOST_SITTERS;
            if (real.isSitter(drawn)) {
                real.seat(real.nextPlace(), drawn);
            }
            real.passMinute();
        }
        return real.sumOf(TAKEN);
    }

    public long odds(int sitter, int f, int n, int what) {
        if (!real.isSitter(sitter) || !isWithin(f, FLASHES - 1) || !isWithin(n, 18) || !isWithin(what, 1)) {
            return finding(BEYOND);
        }
        int above = lightsWithoutFaults(sitter, f);
        int below = LIGHTS;
        for (int d = LIGHTS; d > 1; d--) {
            if (above % d == 0 && below % d == 0) {
                above /= d;
                below /= d;
            }
        }
        return power(what == 0 ? above : below, n);
    }

    public int seed(int v) {
        int was = real.z;
        real.z = v;
        return was;
    }

    // ---- texts

    public int feed(int bytes, int n) {
        if (n < 1 || n > 4) {
            return finding(BEYOND);
        }
        if (!tape.hasRoomFor(n)) {
            return finding(FULL);
        }
        for (int i = n - 1; i >= 0; i--) {
            tape.append((bytes >>> (8 * i)) & 255);
        }
        return tape.size;
    }

    public int wipe() {
        int had = tape.size;
        tape.size = 0;
        return had;
    }

    public int text() {
        trial.become(real);
        int items = tape.readInto(trial);
        if (items >= 0) {
            real.become(trial);
        }
        tape.size = 0;
        return items;
    }

    // ---- spots, sheets

    public int hold(int spot, int sitter) {
        if (!isWithin(spot, SPOTS - 1) || !real.isSomebodyOrNobody(sitter)) {
            return finding(BEYOND);
        }
        real.spots[spot] = sitter;
        return 1;
    }

    public int as(int spot, int kind) {
        if (!isWithin(spot, SPOTS - 1) || !isWithin(kind, LAST_KIND)) {
            return finding(BEYOND);
        }
        int held = real.spots[spot];
        Sitter who = real.who(held);
        if (who == null) {
            return finding(MISSING);
        }
        return Sitter.isOfOrUnder(who.kind, kind) ? held : finding(KIND);
    }

    public int sheet(int s, int bits, int n) {
        Sheet sheet = sheetAt(s);
        if (sheet == null || !Sheet.isWidth(bits)) {
            return finding(BEYOND);
        }
        if (n < 0) {
            return finding(SIZE);
        }
        if (n > Sheet.MOST) {
            return finding(BEYOND);
        }
        sheet.begin(bits, n);
        return sheet.size;
    }

    public int write(int s, int i, int v) {
        Sheet sheet = sheetAt(s);
        if (sheet == null || sheet.isMissing()) {
            return finding(refusalFor(sheet));
        }
        return sheet.putNumber(i, v) ? 1 : finding(BEYOND);
    }

    public int copy(int s, int from, int t, int to, int n) {
        Sheet source = sheetAt(s);
        Sheet target = sheetAt(t);
        if (source == null || target == null) {
            return finding(BEYOND);
        }
        if (source.isMissing() || target.isMissing()) {
            return finding(MISSING);
        }
        if (source.bits != target.bits) {
            return finding(KIND);
        }
        if (!source.hasRange(from, n) || !target.hasRange(to, n)) {
            return finding(BEYOND);
        }
        System.arraycopy(source.numbers, from, target.numbers, to, n);
        return n;
    }

    public int load(int s) {
        Sheet sheet = sheetAt(s);
        if (sheet == null || sheet.isMissing()) {
            return finding(refusalFor(sheet));
        }
        int came = 0;
        while (came < PLACES && came < sheet.size && real.isSomebodyOrNobody(sheet.number(came))) {
            real.seat(came, sheet.number(came));
            came++;
        }
        return came;
    }

    public int judge(int s) {
        Sheet sheet = sheetAt(s);
        if (sheet == null || sheet.isMissing()) {
            return finding(refusalFor(sheet));
        }
        for (int i = 0; i < sheet.size; i++) {
            Sitter who = real.who(i);
            if (who == null || who.taken != sheet.number(i)) {
                return 1 + i;
            }
        }
        return 0;
    }

    // ---- images

    public int image() {
        kept.become(real);
        isKept = true;
        return 1;
    }

    public int undo() {
        if (!isKept) {
            return finding(NONE);
        }
        real.become(kept);
        return real.minute;
    }

    public int tear() {
        int was = isKept ? 1 : 0;
        isKept = false;
        return was;
    }

    public int count(int what) {
        switch (what) {
            case 0: return real.minute;
            case 1: return real.sitterCount;
            case 2: return real.sumOf(TAKEN);
            case 3: return real.sumOf(TRIED);
            case 4: return real.till;
            case 5: return tape.size;
            case 6: return real.z;
            case 7: return real.spotsInUse();
            default: return finding(BEYOND);
        }
    }

    public int status(int which) {
        if (which < -1 || which >= FINDINGS) {
            return finding(BEYOND);
        }
        if (which >= 0) {
            return found[which];
        }
        int sum = 0;
        for (int i = 0; i < FINDINGS; i++) {
            sum += found[i];
        }
        return sum;
    }

    // ---- what the calls share

    /** Counts a finding for status() and hands it on. */
    private int finding(int code) {
        int which = BEYOND - code;
        if (which >= 0 && which < FINDINGS) {
            found[which]++;
        }
        return code;
    }

    private static boolean isWithin(int v, int most) {
        return v >= 0 && v <= most;
    }

    /** The sheet of a number, or null if there is no such sheet. */
    private Sheet sheetAt(int s) {
        return s >= 0 && s < SHEETS ? sheets[s] : null;
    }

    /** The finding of a call that wants numbers of a sheet (and a SITTER), and lacks something. */
    private static int refusalFor(Sheet sheet) {
        return sheet != null && sheet.isMissing() ? MISSING : BEYOND;
    }

    private boolean isTallAsTold(Sheet sheet, int sitter, int tall) {
        Sitter who = trial.who(sitter);
        if (who == null) {
            return false;
        }
        who.tall = tall;
        for (int f = 0; f < FLASHES && f < sheet.size; f++) {
            if (!sheet.allows(f, trial.faultsOf(who, f))) {
                return false;
            }
        }
        return true;
    }

    private boolean isKindAsTold(Sheet sheet, int sitter, int kind) {
        trial.become(real);
        trial.give(sitter, OF_KIND, kind);
        for (int i = 0; i < sheet.size; i++) {
            if (!sheet.allows(i, trial.partOf(sitter, TAKEN))) {
                return false;
            }
            trial.passMinute();
        }
        return true;
    }

    private int lightsWithoutFaults(int sitter, int f) {
        trial.become(real);
        Sitter who = trial.who(sitter);
        int good = 0;
        for (int light = 0; light < LIGHTS && who != null; light++) {
            trial.light = light;
            if (trial.faultsOf(who, f) == 0) {
                good++;
            }
        }
        return good;
    }

    private static long power(int base, int n) {
        long product = 1;
        for (int i = 0; i < n; i++) {
            product *= base;
        }
        return product;
    }

    /** One who sits: what it is of itself, and what a FLASH of it would be refused for. */
    private static final class Sitter {
        static final int CHILD = 1;
        static final int GLASSES = 2;
        static final int SHY = 3;
        static final int OLD = 4;
        static final int TWIN = 5;
        static final int BABY = 6;

        int kind;
        int tall;
        int still;
        int merry;
        int coins;
        int taken;
        int tried;

        Sitter() {
            begin(0);
        }

        void begin(int newKind) {
            kind = newKind;
            tall = 60;
            still = 5;
            merry = 3;
            coins = 20;
            taken = 0;
            tried = 0;
        }

        void become(Sitter other) {
            kind = other.kind;
            tall = other.tall;
            still = other.still;
            merry = other.merry;
            coins = other.coins;
            taken = other.taken;
            tried = other.tried;
        }

        static int mostOf(int what) {
            switch (what) {
                case OF_KIND: return LAST_KIND;
                case TALL: return 90;
                case STILL: return 9;
                case MERRY: return 9;
                case COINS: return 999;
                case TAKEN: return 999;
                case TRIED: return 9999;
                default: return -1;
            }
        }

        int part(int what) {
            switch (what) {
                case OF_KIND: return kind;
                case TALL: return tall;
                case STILL: return still;
                case MERRY: return merry;
                case COINS: return coins;
                case TAKEN: return taken;
                case TRIED: return tried;
                default: return 0;
            }
        }

        void putPart(int what, int v) {
            switch (what) {
                case OF_KIND: kind = v; break;
                case TALL: tall = v; break;
                case STILL: still = v; break;
                case MERRY: merry = v; break;
                case COINS: coins = v; break;
                case TAKEN: taken = v; break;
                case TRIED: tried = v; break;
                default: break;
            }
        }

        /** The kind that a kind is under, or -1. */
        static int kindAbove(int kind) {
            switch (kind) {
                case CHILD:
                case GLASSES:
                case TWIN: return 0;
                case SHY: return GLASSES;
                case OLD: return SHY;
                case BABY: return CHILD;
                default: return -1;
            }
        }

        static boolean isOfOrUnder(int kind, int wanted) {
            int up = kind;
            for (int step = 0; step <= LAST_KIND && up >= 0; step++) {
                if (up == wanted) {
                    return true;
                }
                up = kindAbove(up);
            }
            return false;
        }

        int off(int stool) {
            return Math.abs(tall + stool - CHIN_LINE);
        }

        int mayBeOff() {
            switch (kind) {
                case CHILD: return 2 + 3;
                case BABY: return 2 * (2 + 3);
                case SHY: return 2 - 1;
                case OLD: return 2 - 1 + still / 3;
                default: return 2;
            }
        }

        boolean isShut(int f, int minute, int light) {
            boolean isShutAsSitter = (minute + f + still) % 4 == 0;
            boolean isShutAsShy = (minute + f) % 3 == 0;
            switch (kind) {
                case CHILD: return isShutAsSitter || light >= 8;
                case BABY: return f % 2 == 0;
                case SHY: return isShutAsShy;
                case OLD: return isShutAsShy && light >= 4;
                default: return isShutAsSitter;
            }
        }

        boolean isSmiling(int f) {
            boolean isSmilingAsSitter = merry > 5 || (f == 3 && merry > 2);
            switch (kind) {
                case CHILD: return merry + f > 4;
                case BABY:
                case SHY:
                case OLD: return false;
                case TWIN: return isSmilingAsSitter && f != 0;
                default: return isSmilingAsSitter;
            }
        }

        boolean isShining(int light) {
            switch (kind) {
                case GLASSES:
                case SHY: return light > 6;
                case OLD: return light > 5;
                default: return false;
            }
        }
    }

    /** All that an image keeps: THE BOOTH, THE QUEUE, the SITTERS, MINUTE, z and the SPOTS. */
    private static final class Booth {
        int stool;
        int light;
        int price;
        int till;
        int minute;
        int z;
        int sitterCount;
        final Sitter[] sitters;
        final int[] places;
        final int[] spots;

        Booth() {
            stool = 20;
            light = 5;
            price = 5;
            till = 0;
            minute = 0;
            z = 1;
            sitterCount = 0;
            sitters = new Sitter[MOST_SITTERS];
            for (int i = 0; i < MOST_SITTERS; i++) {
                sitters[i] = new Sitter();
            }
            places = new int[PLACES];
            for (int i = 0; i < PLACES; i++) {
                places[i] = -1;
            }
            spots = new int[SPOTS];
            for (int i = 0; i < SPOTS; i++) {
                spots[i] = -1;
            }
        }

        void become(Booth other) {
            stool = other.stool;
            light = other.light;
            price = other.price;
            till = other.till;
            minute = other.minute;
            z = other.z;
            sitterCount = other.sitterCount;
            for (int i = 0; i < MOST_SITTERS && i < sitterCount; i++) {
                sitters[i].become(other.sitters[i]);
            }
            System.arraycopy(other.places, 0, places, 0, PLACES);
            System.arraycopy(other.spots, 0, spots, 0, SPOTS);
        }

        static boolean isPart(int what) {
            return what >= STOOL && what <= TILL;
        }

        static int mostOf(int what) {
            switch (what) {
                case STOOL: return 60;
                case LIGHT: return 9;
                case PRICE: return 20;
                case TILL: return 99999;
                default: return -1;
            }
        }

        int part(int what) {
            switch (what) {
                case STOOL: return stool;
                case LIGHT: return light;
                case PRICE: return price;
                case TILL: return till;
                default: return 0;
            }
        }

        void putPart(int what, int v) {
            switch (what) {
                case STOOL: stool = v; break;
                case LIGHT: light = v; break;
                case PRICE: price = v; break;
                case TILL: till = v; break;
                default: break;
            }
        }

        static boolean isPlace(int p) {
            return p >= 0 && p < PLACES;
        }

        int nextPlace() {
            return minute % PLACES;
        }

        int whoIsIn(int p) {
            return isPlace(p) ? places[p] : -1;
        }

        void seat(int p, int s) {
            if (isPlace(p)) {
                places[p] = s;
            }
        }

        void emptyPlacesOf(int set) {
            for (int p = 0; p < PLACES; p++) {
                if (isSitter(places[p]) && (set >> places[p] & 1) == 1) {
                    places[p] = -1;
                }
            }
        }

        boolean isSitter(int s) {
            return s >= 0 && s < sitterCount && s < MOST_SITTERS;
        }

        boolean isSomebodyOrNobody(int s) {
            return s == -1 || isSitter(s);
        }

        /** The SITTER of a number, or null if there is none. */
        Sitter who(int s) {
            return isSitter(s) ? sitters[s] : null;
        }

        /** A new SITTER's number, or -1 if no more can be there. */
        int addSitter(int kind) {
            if (sitterCount < 0 || sitterCount >= MOST_SITTERS) {
                return -1;
            }
            sitters[sitterCount].begin(kind);
            sitterCount++;
            return sitterCount - 1;
        }

        int partOf(int s, int what) {
            Sitter who = who(s);
            return who == null ? 0 : who.part(what);
        }

        void give(int s, int what, int v) {
            Sitter who = who(s);
            if (who != null) {
                who.putPart(what, v);
            }
        }

        int sumOf(int what) {
            int sum = 0;
            for (int s = 0; s < sitterCount; s++) {
                sum += partOf(s, what);
            }
            return sum;
        }

        int sitterSet() {
            return (1 << sitterCount) - 1;
        }

        boolean isEachTaken() {
            for (int s = 0; s < sitterCount; s++) {
                if (partOf(s, TAKEN) == 0) {
                    return false;
                }
            }
            return true;
        }

        int spotsInUse() {
            int many = 0;
            for (int i = 0; i < SPOTS; i++) {
                if (spots[i] >= 0) {
                    many++;
                }
            }
            return many;
        }

        int faultsOf(Sitter who, int f) {
            int set = light < 2 ? 16 : 0;
            if (who.off(stool) > who.mayBeOff()) {
                set |= 1;
            }
            if (who.isShut(f, minute, light)) {
                set |= 2;
            }
            if (who.isSmiling(f)) {
                set |= 4;
            }
            if (who.isShining(light)) {
                set |= 8;
            }
            return set;
        }

        boolean hasClearFlash(Sitter who) {
            for (int f = 0; f < FLASHES; f++) {
                if (faultsOf(who, f) == 0) {
                    return true;
                }
            }
            return false;
        }

        int sittersWithClearFlash() {
            int set = 0;
            for (int s = 0; s < sitterCount; s++) {
                Sitter who = who(s);
                if (who != null && hasClearFlash(who)) {
                    set |= 1 << s;
                }
            }
            return set;
        }

        int commonFaults() {
            int set = sitterCount == 0 ? 0 : ALL_FAULTS;
            for (int s = 0; s < sitterCount; s++) {
                Sitter who = who(s);
                for (int f = 0; f < FLASHES && who != null; f++) {
                    set &= faultsOf(who, f);
                }
            }
            return set;
        }

        int faultsTogether(int s) {
            Sitter who = who(s);
            int many = 0;
            for (int f = 0; f < FLASHES && who != null; f++) {
                many += Integer.bitCount(faultsOf(who, f));
            }
            return many;
        }

        void passMinutes(int n) {
            for (int i = 0; i < n; i++) {
                passMinute();
            }
        }

        void passMinute() {
            Sitter who = who(whoIsIn(nextPlace()));
            if (who != null && who.coins >= price) {
                takePictures(who);
            }
            minute = Math.min(minute + 1, MOST_MINUTE);
            if (minute % PLACES == 0) {
                payOut();
            }
        }

        void takePictures(Sitter who) {
            who.coins -= price;
            till = Math.min(till + price, mostOf(TILL));
            who.tried = Math.min(who.tried + 1, Sitter.mostOf(TRIED));
            turnStool(who);
            if (hasClearFlash(who)) {
                who.taken = Math.min(who.taken + 1, Sitter.mostOf(TAKEN));
                who.still = Math.min(who.still + 1, Sitter.mostOf(STILL));
            } else {
                who.merry = Math.max(who.merry - 1, 0);
            }
        }

        void turnStool(Sitter who) {
            int wanted = Math.max(0, Math.min(CHIN_LINE - who.tall, mostOf(STOOL)));
            stool += Math.max(-4, Math.min(wanted - stool, 4));
        }

        void payOut() {
            for (int s = 0; s < sitterCount; s++) {
                Sitter who = who(s);
                if (who != null) {
                    who.coins = Math.min(who.coins + 3, Sitter.mostOf(COINS));
                }
            }
        }

        int draw() {
            z = z * 1103515245 + 12345;
            return z >>> 8;
        }
    }

    /** Numbers of 8, 16 or 32 bits, or MISSING: then it has bits 0 and no numbers. */
    private static final class Sheet {
        static final int MOST = 40;

        int bits;
        int size;
        final int[] numbers;

        Sheet() {
            bits = 0;
            size = 0;
            numbers = new int[MOST];
        }

        static boolean isWidth(int bits) {
            return bits == 0 || bits == 8 || bits == 16 || bits == 32;
        }

        boolean isMissing() {
            return bits == 0;
        }

        void begin(int newBits, int n) {
            bits = newBits;
            size = newBits == 0 ? 0 : n;
            for (int i = 0; i < MOST; i++) {
                numbers[i] = 0;
            }
        }

        boolean hasNumber(int i) {
            return i >= 0 && i < size && i < MOST;
        }

        boolean hasRange(int from, int n) {
            return from >= 0 && n >= 0 && from <= size && n <= size - from;
        }

        int number(int i) {
            return hasNumber(i) ? numbers[i] : 0;
        }

        boolean putNumber(int i, int v) {
            if (!hasNumber(i)) {
                return false;
            }
            if (bits == 8) {
                numbers[i] = (byte) v;
            } else {
                numbers[i] = bits == 16 ? (short) v : v;
            }
            return true;
        }

        boolean allows(int i, int v) {
            int asked = number(i);
            return asked == -1 || asked == v;
        }
    }

    /** THE TAPE, and the reading of a TEXT from it, TOKEN by TOKEN. */
    private static final class Tape {
        static final int MOST = 120;

        static final int END = 0;
        static final int WORD = 1;
        static final int NUMBER = 2;
        static final int SIGN = 3;
        static final int OTHER = 4;

        final int[] bytes;
        int size;
        /* The TOKEN that is looked at: its begin, the byte behind it, what it is, a NUMBER's value. */
        int begin;
        int behind;
        int type;
        int value;

        Tape() {
            bytes = new int[MOST];
            size = 0;
            begin = 0;
            behind = 0;
            type = END;
            value = 0;
        }

        boolean hasRoomFor(int n) {
            return size + n <= MOST;
        }

        void append(int b) {
            if (size >= 0 && size < MOST) {
                bytes[size] = b;
                size++;
            }
        }

        /** A booth comes to be as the TEXT tells: how many ITEMS, or -1 less the FAULT. */
        int readInto(Booth booth) {
            behind = 0;
            nextToken();
            int items = 0;
            while (items < MOST && readItem(booth)) {
                items++;
                if (type == END) {
                    return items;
                }
                if (type != SIGN) {
                    break;
                }
                nextToken();
            }
            return -1 - begin;
        }

        /** Like all that read, it is false at a FAULT and leaves the TOKEN at fault looked at. */
        boolean readItem(Booth booth) {
            for (int kind = 0; kind <= LAST_KIND; kind++) {
                if (isWord(wordOfKind(kind))) {
                    return readSitter(booth, kind);
                }
            }
            if (isWord("queue")) {
                return readQueue(booth);
            }
            for (int what = STOOL; what <= PRICE; what++) {
                if (isWord(wordOfPart(what))) {
                    return readPart(booth, what);
                }
            }
            return false;
        }

        boolean readSitter(Booth booth, int kind) {
            int number = booth.addSitter(kind);
            if (number < 0) {
                return false;
            }
            nextToken();
            for (int what = TALL; what <= COINS; what++) {
                if (isWord(wordOfTrait(what))) {
                    nextToken();
                    if (!isNumber(Sitter.mostOf(what))) {
                        return false;
                    }
                    booth.give(number, what, value);
                    nextToken();
                }
            }
            return true;
        }

        boolean readQueue(Booth booth) {
            nextToken();
            int p = 0;
            while (p < PLACES && isNumber(booth.sitterCount - 1)) {
                booth.seat(p, value);
                nextToken();
                p++;
            }
            return p > 0;
        }

        boolean readPart(Booth booth, int what) {
            nextToken();
            if (!isNumber(Booth.mostOf(what))) {
                return false;
            }
            booth.putPart(what, value);
            nextToken();
            return true;
        }

        void nextToken() {
            begin = behind;
            while (begin < size && byteAt(begin) == ' ') {
                begin++;
            }
            behind = begin;
            int first = byteAt(begin);
            if (first < 0) {
                type = END;
            } else if (isLetter(first)) {
                type = WORD;
                while (behind < size && isLetter(byteAt(behind))) {
                    behind++;
                }
            } else if (isDigit(first)) {
                type = NUMBER;
                readDigits();
            } else {
                type = first == ';' ? SIGN : OTHER;
                behind++;
            }
        }

        void readDigits() {
            value = 0;
            while (behind < size && isDigit(byteAt(behind))) {
                /* Held at 1000, which is too much everywhere, so that many digits can't wrap around. */
                value = Math.min(value * 10 + byteAt(behind) - '0', 1000);
                behind++;
            }
        }

        /** A byte of THE TAPE, or -1 where there is none. */
        int byteAt(int i) {
            return i >= 0 && i < size && i < MOST ? bytes[i] : -1;
        }

        static boolean isLetter(int b) {
            return b >= 'a' && b <= 'z';
        }

        static boolean isDigit(int b) {
            return b >= '0' && b <= '9';
        }

        boolean isNumber(int most) {
            return type == NUMBER && value <= most;
        }

        boolean isWord(String word) {
            if (type != WORD || behind - begin != word.length()) {
                return false;
            }
            for (int i = 0; i < word.length(); i++) {
                if (byteAt(begin + i) != word.charAt(i)) {
                    return false;
                }
            }
            return true;
        }

        static String wordOfKind(int kind) {
            switch (kind) {
                case Sitter.CHILD: return "child";
                case Sitter.GLASSES: return "glasses";
                case Sitter.SHY: return "shy";
                case Sitter.OLD: return "old";
                case Sitter.TWIN: return "twin";
                case Sitter.BABY: return "baby";
                default: return "sitter";
            }
        }

        static String wordOfPart(int what) {
            switch (what) {
                case LIGHT: return "light";
                case PRICE: return "price";
                default: return "stool";
            }
        }

        static String wordOfTrait(int what) {
            switch (what) {
                case STILL: return "still";
                case MERRY: return "merry";
                case COINS: return "coins";
                default: return "tall";
            }
        }
    }
}
