import java.util.NoSuchElementException;

/**
 * A hall in which persons vote by the weight of what they hold, told as a text.
 * The document's numbered promises say what each public call answers.
 */
public final class WeighedHall {
    public static final int NONE = -1;

    private static final int OUTSIDE = -2;
    /** Above every minute and every sum of pounds that can come up. */
    private static final int NEVER = 1000000;

    private static final int TAPE_MOST = 600;
    private static final int FEED_BYTES = 20;
    private static final int LENDINGS_TEXT_MOST = 300;

    private static final int CLAUSES_MOST = 60;
    private static final int PERSONS_MOST = 10;
    private static final int THINGS_MOST = 14;
    private static final int DOORS_MOST = 3;
    private static final int MOTIONS_MOST = 8;
    private static final int LENDINGS_MOST = 20;
    private static final int VOTES_MOST = 9;
    private static final int IMAGES_MOST = 3;
    private static final int PARTIES = 4;

    private static final int MINUTES = 120;
    private static final int SPEECH_MOST = 60;
    private static final int BRING_MINUTE_MOST = 999;
    private static final int POT_MOST = 9999;
    private static final int MORE_MOST = 9999;
    private static final int POUNDS_MOST = 99;
    private static final int STRENGTH_BY_ARM = 60;
    /** Above the root of all pounds that a hall can have. */
    private static final int ROOT_MOST = 40;

    private static final int LAW_POUNDS = 0;
    private static final int LAW_HEADS = 2;
    private static final int LAWS = 3;
    private static final int FOR = 0;
    private static final int AGAINST = 1;

    private static final int SOUND = 0;
    private static final int UNFIT = 1;
    private static final int NO_SUCH_NUMBER = 2;
    private static final int TOO_MANY = 3;
    private static final int FAULT_SHIFT = 10;

    private final Tape tape = new Tape();
    private Plan plan = new Plan();
    private Plan sparePlan = new Plan();
    private Loans loans = new Loans();
    private Loans spareLoans = new Loans();
    private final Ballots ballots = new Ballots();
    private final Loans[] imageLoans = new Loans[IMAGES_MOST];
    private final Ballots[] imageBallots = new Ballots[IMAGES_MOST];
    private int images;

    private final Chronicle chronicle = new Chronicle();
    private final Sitting pausing = new Sitting();
    private final Sitting behind = new Sitting();
    private final Carrying carrying = new Carrying();
    private final Bringing bringing = new Bringing();
    private final Scales scales = new Scales();
    private final Hollows hollows = new Hollows();
    private int refusedElements;
    private int refusedArguments;

    public WeighedHall() {
        for (int i = 0; i < IMAGES_MOST; i++) {
            imageLoans[i] = new Loans();
            imageBallots[i] = new Ballots();
        }
    }

    public int feed(int a, int b, int c, int d, int e) {
        if (tape.size + FEED_BYTES > TAPE_MOST) {
            return NONE;
        }
        tape.put(a);
        tape.put(b);
        tape.put(c);
        tape.put(d);
        tape.put(e);
        return tape.size;
    }

    public int hall(int n) throws IllegalArgumentException {
        needArgument(n >= 0 && n <= tape.size);
        tape.open(n);
        sparePlan.readFrom(tape);
        if (!tape.isSound()) {
            return tape.faultKind - FAULT_SHIFT;
        }
        Plan old = plan;
        plan = sparePlan;
        sparePlan = old;
        loans.clear();
        ballots.clear();
        images = 0;
        startAnew();
        return plan.persons;
    }

    public int lend(int n) throws IllegalArgumentException {
        needArgument(n >= 0 && n <= tape.size && n <= LENDINGS_TEXT_MOST);
        tape.open(n);
        spareLoans.readFrom(tape, plan);
        if (!tape.isSound()) {
            return tape.faultKind - FAULT_SHIFT;
        }
        Loans old = loans;
        loans = spareLoans;
        spareLoans = old;
        startAnew();
        return loans.number;
    }

    public int fault() {
        return tape.faultPlace;
    }

    public int told(int what) throws IllegalArgumentException {
        needArgument(what >= 0 && what <= 5);
        switch (what) {
            case 0:
                return plan.persons;
            case 1:
                return plan.things;
            case 2:
                return plan.doors;
            case 3:
                return plan.motions;
            case 4:
                return loans.number;
            default:
                return plan.law;
        }
    }

    public int person(int person, int what) throws NoSuchElementException, IllegalArgumentException {
        needElement(plan.hasPerson(person));
        needArgument(what >= 0 && what <= 2);
        switch (what) {
            case 0:
                return plan.party[person];
            case 1:
                return plan.arm[person];
            default:
                return plan.ownPounds(person);
        }
    }

    public int thing(int thing, int what) throws NoSuchElementException, IllegalArgumentException {
        needElement(plan.hasThing(thing));
        needArgument(what >= 0 && what <= 3);
        switch (what) {
            case 0:
                return plan.owner[thing];
            case 1:
                return plan.weight[thing];
            case 2:
                return plan.door[thing];
            default:
                return chronicled().sitting.through[thing];
        }
    }

    public int holds(int thing, int minute) throws NoSuchElementException, IllegalArgumentException {
        needElement(plan.hasThing(thing));
        needArgument(isMinute(minute));
        return chronicled().holderOf(thing, minute);
    }

    public int pounds(int person, int minute, int what) throws NoSuchElementException, IllegalArgumentException {
        needElement(plan.hasPerson(person));
        needArgument(isMinute(minute) && (what == 0 || what == 1));
        return what == 0 ? chronicled().poundsWith(person, minute) : chronicled().strengthOf(person, minute);
    }

    public int spent(int person) throws NoSuchElementException {
        needElement(plan.hasPerson(person));
        return chronicled().sitting.spentAt[person];
    }

    public int motion(int motion, int law, int what) throws NoSuchElementException, IllegalArgumentException {
        needElement(plan.hasMotion(motion));
        needArgument(isLaw(law) && what >= 0 && what <= 2);
        if (what == 2) {
            return chronicled().isPassed(motion, law) ? 1 : 0;
        }
        return chronicled().counted(motion, law, what);
    }

    public int passes(int law) throws IllegalArgumentException {
        needArgument(isLaw(law));
        return chronicled().passedBits(law);
    }

    public int unlike(int law, int other) throws IllegalArgumentException {
        needArgument(isLaw(law) && isLaw(other));
        return Integer.bitCount(chronicled().passedBits(law) ^ chronicled().passedBits(other));
    }

    public int sums(int minute, int what) throws IllegalArgumentException {
        needArgument(isMinute(minute) && what >= 0 && what <= 2);
        switch (what) {
            case 0:
                return chronicled().poundsWith(NONE, minute);
            case 1:
                return plan.allPounds() - chronicled().poundsWith(NONE, minute)
                        - chronicled().poundsWith(OUTSIDE, minute);
            default:
                return chronicled().poundsWith(OUTSIDE, minute);
        }
    }

    public int least(int motion, int what) throws NoSuchElementException, IllegalArgumentException {
        needElement(plan.hasMotion(motion));
        needArgument(what == 0 || what == 1);
        carrying.find(plan, motion, chronicled().counted(motion, LAW_POUNDS, AGAINST));
        return what == 0 ? carrying.leastPounds : carrying.leastSet;
    }

    public int decides(int thing) throws NoSuchElementException {
        needElement(plan.hasThing(thing));
        behind.begin(plan, loans, thing);
        int passed = 0;
        for (int minute = 0; minute < MINUTES; minute++) {
            behind.goThrough(minute, minute);
            passed |= behind.passedBitsAt(minute);
        }
        return passed ^ chronicled().passedBits(plan.law);
    }

    public int power(int person) throws NoSuchElementException {
        needElement(plan.hasPerson(person));
        scales.weighPersons(plan);
        return scales.swingsOf(person);
    }

    public int powers() {
        scales.weighPersons(plan);
        int all = 0;
        for (int person = 0; person < plan.persons; person++) {
            all += scales.swingsOf(person);
        }
        return all;
    }

    public boolean wins(int parties) throws IllegalArgumentException {
        needArgument(parties >= 0 && parties < 1 << PARTIES);
        scales.weighParties(plan);
        return scales.isWinning(parties);
    }

    public int owed(int party, int pot, int what) throws IllegalArgumentException {
        needArgument(party >= 0 && party < PARTIES && pot >= 0 && pot <= POT_MOST && (what == 0 || what == 1));
        scales.weighParties(plan);
        int above = pot * scales.ordersTurnedBy(party);
        int shared = greatestShared(above, Scales.ORDERS);
        return cut(what == 0 ? above : Scales.ORDERS, shared);
    }

    public int together(int i) {
        scales.weighParties(plan);
        int found = 0;
        for (int parties = 0; parties < 1 << PARTIES; parties++) {
            if (scales.isHoldingTogether(parties)) {
                if (found == i) {
                    return parties;
                }
                found++;
            }
        }
        return NONE;
    }

    public int bring(int door, int minute) throws NoSuchElementException, IllegalArgumentException {
        needElement(door >= 0 && door < plan.doors);
        needArgument(minute >= 0 && minute <= BRING_MINUTE_MOST);
        return bringing.mostPounds(plan, door, minute);
    }

    public int vote(int f, int g, int more) throws IllegalArgumentException {
        needArgument(plan.hasPersons(f) && plan.hasPersons(g) && (f & g) == 0
                && more >= -MORE_MOST && more <= MORE_MOST);
        if (ballots.number >= VOTES_MOST) {
            return NONE;
        }
        ballots.add(f, g, more);
        startAnew();
        return ballots.number;
    }

    public int forget() {
        int gone = ballots.number;
        ballots.clear();
        startAnew();
        return gone;
    }

    public int hollow(int what) throws IllegalArgumentException {
        needArgument(what >= 0 && what <= 4);
        if (!hollows.known) {
            hollows.find(plan, ballots);
        }
        switch (what) {
            case 0:
                return hollows.sets;
            case 1:
                return hollows.sets == 0 ? 0 : hollows.inAll;
            case 2:
                return hollows.sets == 0 ? 0 : plan.allThings() & ~hollows.inAny;
            case 3:
                return hollows.sets == 0 ? NONE : Integer.bitCount(hollows.fewest);
            default:
                return hollows.sets == 0 ? NONE : hollows.fewest;
        }
    }

    public int tired(int motion) throws NoSuchElementException {
        needElement(plan.hasMotion(motion));
        boolean usual = chronicled().isPassed(motion, plan.law);
        int minute = plan.minute[motion];
        pauseFrom(minute);
        for (int l = 1; l <= SPEECH_MOST; l++) {
            pausing.goThrough(minute + l - 1, NONE);
            behind.copyFrom(pausing);
            behind.goThrough(minute + l, minute);
            if (behind.isPassed(motion, plan.law) != usual) {
                return l;
            }
        }
        return NONE;
    }

    public boolean speech(int motion, int l) throws NoSuchElementException, IllegalArgumentException {
        needElement(plan.hasMotion(motion));
        needArgument(l >= 1 && l <= SPEECH_MOST);
        int minute = plan.minute[motion];
        pauseFrom(minute);
        for (int later = 0; later < l; later++) {
            pausing.goThrough(minute + later, NONE);
        }
        pausing.goThrough(minute + l, minute);
        return pausing.isPassed(motion, plan.law);
    }

    public int image() {
        if (images >= IMAGES_MOST) {
            return NONE;
        }
        imageLoans[images].copyFrom(loans);
        imageBallots[images].copyFrom(ballots);
        images++;
        return images;
    }

    public int restore() {
        if (images <= 0) {
            return NONE;
        }
        images--;
        loans.copyFrom(imageLoans[images]);
        ballots.copyFrom(imageBallots[images]);
        startAnew();
        return images;
    }

    public int status(int what) {
        if (what == 0) {
            return refusedElements;
        }
        return what == 1 ? refusedArguments : NONE;
    }

    public int count(int what) {
        switch (what) {
            case 0:
                return ballots.number;
            case 1:
                return images;
            case 2:
                return tape.size;
            default:
                return NONE;
        }
    }

    private void needElement(boolean there) {
        if (!there) {
            refusedElements++;
            throw new NoSuchElementException("no such person, thing, door or motion");
        }
    }

    private void needArgument(boolean right) {
        if (!right) {
            refusedArguments++;
            throw new IllegalArgumentException("an argument is none of those that are asked for");
        }
    }

    /** What was found from the hall, the lendings or the votes counts no more, as one of them is another now. */
    private void startAnew() {
        chronicle.known = false;
        hollows.known = false;
    }

    private Chronicle chronicled() {
        if (!chronicle.known) {
            chronicle.goThroughAll(plan, loans);
        }
        return chronicle;
    }

    /** A speech shifts nothing told for an earlier minute, so these go as told. */
    private void pauseFrom(int minute) {
        pausing.begin(plan, loans, NONE);
        for (int earlier = 0; earlier < minute; earlier++) {
            pausing.goThrough(earlier, earlier);
        }
    }

    private static boolean isMinute(int minute) {
        return minute >= 0 && minute < MINUTES;
    }

    private static boolean isLaw(int law) {
        return law >= 0 && law < LAWS;
    }

    private static boolean isIn(int number, int bits) {
        return (bits >> number & 1) == 1;
    }

    /** The number of the lowest bit of a set that has one. */
    private static int lowestOf(int bits) {
        return Integer.bitCount((bits & -bits) - 1);
    }

    private static int cut(int above, int below) {
        return below > 0 ? above / below : 0;
    }

    private static int greatestShared(int a, int b) {
        int greater = a;
        int lesser = b;
        for (int i = 0; i < 64 && lesser > 0; i++) {
            int rest = greater % lesser;
            greater = lesser;
            lesser = rest;
        }
        return greater;
    }

    private static int rootOf(int pounds) {
        int root = 0;
        for (int next = 1; next <= ROOT_MOST && next * next <= pounds; next++) {
            root = next;
        }
        return root;
    }

    /** The bytes that came, and the reading of a text from them: behind its first fault nothing more is read. */
    private static final class Tape {
        private final byte[] bytes = new byte[TAPE_MOST];
        private int size;
        private int end;
        private int place;
        private int tokenFrom;
        private int faultKind = SOUND;
        private int faultPlace = NONE;

        private void put(int number) {
            for (int shift = 24; shift >= 0; shift -= 8) {
                if (size < TAPE_MOST) {
                    bytes[size] = (byte) (number >> shift);
                    size++;
                }
            }
        }

        /** The tape counts as empty from here on; the bytes of the text stay until new ones come. */
        private void open(int length) {
            end = Math.min(length, TAPE_MOST);
            size = 0;
            place = 0;
            tokenFrom = 0;
            faultKind = SOUND;
            faultPlace = NONE;
        }

        private boolean isSound() {
            return faultKind == SOUND;
        }

        private void refuse(int kind) {
            if (isSound()) {
                faultKind = kind;
                faultPlace = tokenFrom;
            }
        }

        private void skipBlanks() {
            while (place < end && bytes[place] == ' ') {
                place++;
            }
            tokenFrom = place;
        }

        private boolean hasMore() {
            if (!isSound()) {
                return false;
            }
            skipBlanks();
            return place < end;
        }

        private void readWord() {
            if (!isSound()) {
                return;
            }
            skipBlanks();
            while (place < end && bytes[place] >= 'a' && bytes[place] <= 'z') {
                place++;
            }
        }

        private boolean wordIs(String word) {
            int length = place - tokenFrom;
            if (length != word.length()) {
                return false;
            }
            for (int i = 0; i < length; i++) {
                if (bytes[tokenFrom + i] != word.charAt(i)) {
                    return false;
                }
            }
            return true;
        }

        /** A number of the text; NONE behind a fault. Callers look at isSound before they use it. */
        private int readNumber(int least, int most) {
            if (!isSound()) {
                return NONE;
            }
            skipBlanks();
            int number = 0;
            while (place < end && bytes[place] >= '0' && bytes[place] <= '9') {
                number = Math.min(number * 10 + bytes[place] - '0', NEVER);
                place++;
            }
            if (place == tokenFrom) {
                refuse(UNFIT);
            } else if (number < least || number > most) {
                refuse(NO_SUCH_NUMBER);
            }
            return number;
        }

        private void readStop() {
            if (!isSound()) {
                return;
            }
            skipBlanks();
            if (place < end && bytes[place] == ';') {
                place++;
            } else {
                refuse(UNFIT);
            }
        }
    }

    /** A hall as it was told. */
    private static final class Plan {
        private int persons;
        private final int[] party = new int[PERSONS_MOST];
        private final int[] arm = new int[PERSONS_MOST];
        private int things;
        private final int[] owner = new int[THINGS_MOST];
        private final int[] weight = new int[THINGS_MOST];
        private final int[] door = new int[THINGS_MOST];
        private final int[] start = new int[THINGS_MOST];
        private int doors;
        private final int[] width = new int[DOORS_MOST];
        private int motions;
        private final int[] minute = new int[MOTIONS_MOST];
        private final int[] pro = new int[MOTIONS_MOST];
        private final int[] con = new int[MOTIONS_MOST];
        private int law;

        private void readFrom(Tape text) {
            persons = 0;
            things = 0;
            doors = 0;
            motions = 0;
            law = 0;
            for (int clauses = 0; clauses <= CLAUSES_MOST && text.hasMore(); clauses++) {
                text.readWord();
                readClause(text, clauses < CLAUSES_MOST);
                text.readStop();
            }
        }

        private void readClause(Tape text, boolean room) {
            if (text.wordIs("person")) {
                needRoom(text, room && persons < PERSONS_MOST);
                readPerson(text);
            } else if (text.wordIs("thing")) {
                needRoom(text, room && things < THINGS_MOST);
                readThing(text, false);
            } else if (text.wordIs("door")) {
                needRoom(text, room && doors < DOORS_MOST);
                readDoor(text);
            } else if (text.wordIs("outside")) {
                needRoom(text, room && things < THINGS_MOST);
                readThing(text, true);
            } else if (text.wordIs("motion")) {
                needRoom(text, room && motions < MOTIONS_MOST);
                readMotion(text);
            } else if (text.wordIs("law")) {
                needRoom(text, room);
                readLaw(text);
            } else {
                text.refuse(UNFIT);
            }
        }

        private static void needRoom(Tape text, boolean room) {
            if (!room) {
                text.refuse(TOO_MANY);
            }
        }

        private void readPerson(Tape text) {
            int p = text.readNumber(0, PARTIES - 1);
            int a = text.readNumber(1, 99);
            if (text.isSound() && persons < PERSONS_MOST) {
                party[persons] = p;
                arm[persons] = a;
                persons++;
            }
        }

        private void readThing(Tape text, boolean outside) {
            int o = text.readNumber(0, persons - 1);
            int w = text.readNumber(1, POUNDS_MOST);
            int d = outside ? text.readNumber(0, doors - 1) : NONE;
            int s = outside ? text.readNumber(0, 99) : 0;
            if (text.isSound() && things < THINGS_MOST) {
                owner[things] = o;
                weight[things] = w;
                door[things] = d;
                start[things] = s;
                things++;
            }
        }

        private void readDoor(Tape text) {
            int c = text.readNumber(1, 99);
            if (text.isSound() && doors < DOORS_MOST) {
                width[doors] = c;
                doors++;
            }
        }

        private void readMotion(Tape text) {
            int t = text.readNumber(0, MINUTES - 1);
            int f = text.readNumber(0, allPersons());
            int g = text.readNumber(0, allPersons());
            if (text.isSound() && (f & g) != 0) {
                text.refuse(NO_SUCH_NUMBER);
            }
            if (text.isSound() && motions < MOTIONS_MOST) {
                minute[motions] = t;
                pro[motions] = f;
                con[motions] = g;
                motions++;
            }
        }

        private void readLaw(Tape text) {
            int k = text.readNumber(0, LAWS - 1);
            if (text.isSound()) {
                law = k;
            }
        }

        private int allPersons() {
            return (1 << persons) - 1;
        }

        private int allThings() {
            return (1 << things) - 1;
        }

        private boolean hasPerson(int p) {
            return p >= 0 && p < persons;
        }

        private boolean hasPersons(int bits) {
            return bits >= 0 && bits <= allPersons();
        }

        private boolean hasThing(int t) {
            return t >= 0 && t < things;
        }

        private boolean hasMotion(int m) {
            return m >= 0 && m < motions;
        }

        private int ownPounds(int p) {
            int pounds = 0;
            for (int t = 0; t < things; t++) {
                if (owner[t] == p) {
                    pounds += weight[t];
                }
            }
            return pounds;
        }

        private int allPounds() {
            int pounds = 0;
            for (int t = 0; t < things; t++) {
                pounds += weight[t];
            }
            return pounds;
        }

        /** How many minutes a thing takes in its door. */
        private int passage(int t) {
            int d = door[t];
            if (d < 0 || d >= doors) {
                return 0;
            }
            return cut(weight[t] + width[d] - 1, width[d]);
        }

        /** Puts the minute at which each thing is through; a thing that is not (without) holds up no other. */
        private void findThrough(int[] through, int without, int[] doorFree) {
            for (int d = 0; d < doorFree.length; d++) {
                doorFree[d] = 0;
            }
            for (int t = 0; t < things && t < through.length; t++) {
                int d = door[t];
                if (t == without) {
                    through[t] = NEVER;
                } else if (d < 0 || d >= doorFree.length) {
                    through[t] = 0;
                } else {
                    through[t] = Math.max(start[t], doorFree[d]) + passage(t);
                    doorFree[d] = through[t];
                }
            }
        }
    }

    /** Lendings as they were told. */
    private static final class Loans {
        private int number;
        private final int[] thing = new int[LENDINGS_MOST];
        private final int[] taker = new int[LENDINGS_MOST];
        private final int[] from = new int[LENDINGS_MOST];
        private final int[] till = new int[LENDINGS_MOST];

        private void clear() {
            number = 0;
        }

        private void readFrom(Tape text, Plan plan) {
            number = 0;
            for (int i = 0; i <= LENDINGS_MOST && text.hasMore(); i++) {
                text.readWord();
                if (!text.wordIs("lend")) {
                    text.refuse(UNFIT);
                } else if (i >= LENDINGS_MOST) {
                    text.refuse(TOO_MANY);
                }
                readLoan(text, plan);
                text.readStop();
            }
        }

        private void readLoan(Tape text, Plan plan) {
            int x = text.readNumber(0, plan.things - 1);
            int y = text.readNumber(0, plan.persons - 1);
            if (text.isSound() && plan.hasThing(x) && plan.owner[x] == y) {
                text.refuse(NO_SUCH_NUMBER);
            }
            int t = text.readNumber(0, MINUTES - 1);
            int e = text.readNumber(t + 1, MINUTES);
            if (text.isSound() && number < LENDINGS_MOST) {
                thing[number] = x;
                taker[number] = y;
                from[number] = t;
                till[number] = e;
                number++;
            }
        }

        private void copyFrom(Loans other) {
            number = other.number;
            System.arraycopy(other.thing, 0, thing, 0, LENDINGS_MOST);
            System.arraycopy(other.taker, 0, taker, 0, LENDINGS_MOST);
            System.arraycopy(other.from, 0, from, 0, LENDINGS_MOST);
            System.arraycopy(other.till, 0, till, 0, LENDINGS_MOST);
        }
    }

    /** Votes as they were told. */
    private static final class Ballots {
        private int number;
        private final int[] pro = new int[VOTES_MOST];
        private final int[] con = new int[VOTES_MOST];
        private final int[] more = new int[VOTES_MOST];

        private void clear() {
            number = 0;
        }

        private void add(int f, int g, int by) {
            if (number < VOTES_MOST) {
                pro[number] = f;
                con[number] = g;
                more[number] = by;
                number++;
            }
        }

        private void copyFrom(Ballots other) {
            number = other.number;
            System.arraycopy(other.pro, 0, pro, 0, VOTES_MOST);
            System.arraycopy(other.con, 0, con, 0, VOTES_MOST);
            System.arraycopy(other.more, 0, more, 0, VOTES_MOST);
        }
    }

    /** A sitting behind the minute that it has come to. */
    private static final class Sitting {
        /** Of nobody, until it begins: so there is always a plan to look at. */
        private Plan plan = new Plan();
        private Loans loans = new Loans();
        private final int[] holder = new int[THINGS_MOST];
        private final int[] through = new int[THINGS_MOST];
        /** By which lending a thing is away; a lending that did not take place gives nothing back. */
        private final int[] lentBy = new int[THINGS_MOST];
        private final int[] load = new int[PERSONS_MOST];
        private final int[] strength = new int[PERSONS_MOST];
        private final int[] spentAt = new int[PERSONS_MOST];
        private final int[] doorFree = new int[DOORS_MOST];

        /** A thing that is not (without) stays outside for good: nobody ever holds it. */
        private void begin(Plan hall, Loans lendings, int without) {
            plan = hall;
            loans = lendings;
            plan.findThrough(through, without, doorFree);
            for (int t = 0; t < plan.things; t++) {
                boolean inside = plan.door[t] == NONE && t != without;
                holder[t] = inside ? plan.owner[t] : OUTSIDE;
                lentBy[t] = NONE;
            }
            for (int p = 0; p < plan.persons; p++) {
                load[p] = 0;
                strength[p] = STRENGTH_BY_ARM * plan.arm[p];
                spentAt[p] = NONE;
            }
        }

        private void copyFrom(Sitting other) {
            plan = other.plan;
            loans = other.loans;
            System.arraycopy(other.holder, 0, holder, 0, THINGS_MOST);
            System.arraycopy(other.through, 0, through, 0, THINGS_MOST);
            System.arraycopy(other.lentBy, 0, lentBy, 0, THINGS_MOST);
            System.arraycopy(other.load, 0, load, 0, PERSONS_MOST);
            System.arraycopy(other.strength, 0, strength, 0, PERSONS_MOST);
            System.arraycopy(other.spentAt, 0, spentAt, 0, PERSONS_MOST);
        }

        /**
         * A speech moves all that is told for a minute to another one, but not the doors:
         * so the minute that the lendings are told for is another number (NONE while one speaks).
         */
        private void goThrough(int minute, int toldMinute) {
            comeIn(minute);
            if (toldMinute != NONE) {
                giveBack(toldMinute);
                giveAway(toldMinute);
            }
            weighHolders();
            tire(minute);
        }

        private void comeIn(int minute) {
            for (int t = 0; t < plan.things; t++) {
                if (holder[t] == OUTSIDE && through[t] == minute) {
                    holder[t] = homeOf(t);
                }
            }
        }

        private void giveBack(int toldMinute) {
            for (int i = 0; i < loans.number; i++) {
                int t = loans.thing[i];
                if (loans.till[i] == toldMinute && plan.hasThing(t) && lentBy[t] == i) {
                    lentBy[t] = NONE;
                    if (holder[t] == loans.taker[i]) {
                        holder[t] = homeOf(t);
                    }
                }
            }
        }

        private void giveAway(int toldMinute) {
            for (int i = 0; i < loans.number; i++) {
                int t = loans.thing[i];
                if (loans.from[i] == toldMinute && plan.hasThing(t)
                        && holder[t] == plan.owner[t] && !isSpent(loans.taker[i])) {
                    holder[t] = loans.taker[i];
                    lentBy[t] = i;
                }
            }
        }

        private void weighHolders() {
            for (int p = 0; p < plan.persons; p++) {
                load[p] = 0;
            }
            for (int t = 0; t < plan.things; t++) {
                if (plan.hasPerson(holder[t])) {
                    load[holder[t]] += plan.weight[t];
                }
            }
        }

        private void tire(int minute) {
            for (int p = 0; p < plan.persons; p++) {
                strength[p] -= load[p];
                if (strength[p] < 0 && spentAt[p] == NONE) {
                    spentAt[p] = minute;
                    dropAllOf(p);
                }
            }
        }

        private void dropAllOf(int p) {
            load[p] = 0;
            for (int t = 0; t < plan.things; t++) {
                if (holder[t] == p) {
                    holder[t] = NONE;
                }
            }
        }

        private int homeOf(int t) {
            return isSpent(plan.owner[t]) ? NONE : plan.owner[t];
        }

        private boolean isSpent(int p) {
            return p >= 0 && p < PERSONS_MOST && spentAt[p] != NONE;
        }

        private int countOf(int bits, int law) {
            int all = 0;
            for (int p = 0; p < plan.persons; p++) {
                if (isIn(p, bits)) {
                    all += law == LAW_HEADS ? 1 : law == LAW_POUNDS ? load[p] : rootOf(load[p]);
                }
            }
            return all;
        }

        private boolean isPassed(int motion, int law) {
            return plan.hasMotion(motion) && countOf(plan.pro[motion], law) > countOf(plan.con[motion], law);
        }

        /** The motions of a minute that pass by the hall's law. */
        private int passedBitsAt(int minute) {
            int bits = 0;
            for (int m = 0; m < plan.motions; m++) {
                if (plan.minute[m] == minute && isPassed(m, plan.law)) {
                    bits |= 1 << m;
                }
            }
            return bits;
        }
    }

    /** What a sitting as told was like behind each of its minutes. */
    private static final class Chronicle {
        private final Sitting sitting = new Sitting();
        private final int[] holders = new int[MINUTES * THINGS_MOST];
        private final int[] strengths = new int[MINUTES * PERSONS_MOST];
        private final int[] counts = new int[MOTIONS_MOST * LAWS * 2];
        private boolean known;

        private void goThroughAll(Plan plan, Loans loans) {
            sitting.begin(plan, loans, NONE);
            for (int minute = 0; minute < MINUTES; minute++) {
                sitting.goThrough(minute, minute);
                System.arraycopy(sitting.holder, 0, holders, minute * THINGS_MOST, THINGS_MOST);
                System.arraycopy(sitting.strength, 0, strengths, minute * PERSONS_MOST, PERSONS_MOST);
                countMotionsOf(minute);
            }
            known = true;
        }

        private void countMotionsOf(int minute) {
            Plan plan = sitting.plan;
            for (int m = 0; m < plan.motions; m++) {
                if (plan.minute[m] == minute) {
                    for (int law = 0; law < LAWS; law++) {
                        counts[placeOf(m, law, FOR)] = sitting.countOf(plan.pro[m], law);
                        counts[placeOf(m, law, AGAINST)] = sitting.countOf(plan.con[m], law);
                    }
                }
            }
        }

        private static int placeOf(int motion, int law, int side) {
            return (motion * LAWS + law) * 2 + side;
        }

        private int counted(int motion, int law, int side) {
            int place = placeOf(motion, law, side);
            return place >= 0 && place < counts.length ? counts[place] : 0;
        }

        private boolean isPassed(int motion, int law) {
            return counted(motion, law, FOR) > counted(motion, law, AGAINST);
        }

        private int passedBits(int law) {
            int bits = 0;
            for (int m = 0; m < sitting.plan.motions; m++) {
                if (isPassed(m, law)) {
                    bits |= 1 << m;
                }
            }
            return bits;
        }

        private int holderOf(int thing, int minute) {
            int place = minute * THINGS_MOST + thing;
            return place >= 0 && place < holders.length ? holders[place] : OUTSIDE;
        }

        private int strengthOf(int person, int minute) {
            int place = minute * PERSONS_MOST + person;
            return place >= 0 && place < strengths.length ? strengths[place] : 0;
        }

        /** Pounds with a person, on the floor (NONE) or outside. */
        private int poundsWith(int whom, int minute) {
            Plan plan = sitting.plan;
            int pounds = 0;
            for (int t = 0; t < plan.things; t++) {
                if (holderOf(t, minute) == whom) {
                    pounds += plan.weight[t];
                }
            }
            return pounds;
        }
    }

    /** The least that is to be carried so that a motion passes. */
    private static final class Carrying {
        private static final int CARRIED_MOST = 10;
        /** Above every load, so that carrier and load make one number. */
        private static final int CARRIER = 4096;

        private int things;
        private final int[] weight = new int[CARRIED_MOST];
        private int carriers;
        private final int[] most = new int[PERSONS_MOST];
        private final int[] pounds = new int[1 << CARRIED_MOST];
        /**
         * Persons take things one after the other, and none goes back to an earlier one: of each set how
         * few persons and, with the last of them, how few pounds do; NEVER, if all together do not.
         */
        private final int[] need = new int[1 << CARRIED_MOST];
        private int leastPounds;
        private int leastSet;

        private void find(Plan plan, int motion, int against) {
            chooseThings(plan, motion);
            chooseCarriers(plan, motion);
            leastPounds = NONE;
            leastSet = NONE;
            pounds[0] = 0;
            need[0] = carriers > 0 ? 0 : NEVER;
            for (int set = 1; set < 1 << things; set++) {
                pounds[set] = pounds[set & (set - 1)] + weight[lowestOf(set)];
                need[set] = needOf(set);
                boolean does = need[set] != NEVER && pounds[set] > against;
                if (does && (leastPounds == NONE || pounds[set] < leastPounds)) {
                    leastPounds = pounds[set];
                    leastSet = set;
                }
            }
        }

        private void chooseThings(Plan plan, int motion) {
            things = 0;
            for (int t = 0; t < plan.things && things < CARRIED_MOST; t++) {
                if (plan.door[t] == NONE && isIn(plan.owner[t], plan.pro[motion])) {
                    weight[things] = plan.weight[t];
                    things++;
                }
            }
        }

        private void chooseCarriers(Plan plan, int motion) {
            carriers = 0;
            for (int p = 0; p < plan.persons; p++) {
                if (isIn(p, plan.pro[motion]) && carriers < PERSONS_MOST) {
                    most[carriers] = cut(STRENGTH_BY_ARM * plan.arm[p], plan.minute[motion] + 1);
                    carriers++;
                }
            }
        }

        private int needOf(int set) {
            int best = NEVER;
            for (int i = 0; i < things; i++) {
                if (isIn(i, set)) {
                    best = Math.min(best, needWith(need[set ^ 1 << i], weight[i]));
                }
            }
            return best;
        }

        private int needWith(int before, int w) {
            if (before == NEVER) {
                return NEVER;
            }
            int carrier = before / CARRIER;
            int load = before % CARRIER;
            for (int c = carrier; c < carriers; c++) {
                if (load + w <= most[c]) {
                    return c * CARRIER + load + w;
                }
                load = 0;
            }
            return NEVER;
        }
    }

    /** The most that a door can let through by a minute, in any order. */
    private static final class Bringing {
        private static final int SUM_MOST = THINGS_MOST * POUNDS_MOST;

        private int number;
        private final int[] order = new int[THINGS_MOST];
        /** For each sum of pounds the soonest minute by which things of that sum are through. */
        private final int[] soonest = new int[SUM_MOST + 1];

        /** Whatever things are chosen, they are through soonest in the order in which they may come. */
        private int mostPounds(Plan plan, int door, int minute) {
            chooseThings(plan, door);
            int all = 0;
            soonest[0] = 0;
            for (int i = 0; i < number; i++) {
                int w = plan.weight[order[i]];
                for (int sum = all + 1; sum <= all + w && sum <= SUM_MOST; sum++) {
                    soonest[sum] = NEVER;
                }
                all = Math.min(all + w, SUM_MOST);
                takeIn(plan, order[i], all);
            }
            for (int sum = all; sum > 0; sum--) {
                if (soonest[sum] <= minute) {
                    return sum;
                }
            }
            return 0;
        }

        private void takeIn(Plan plan, int t, int all) {
            int w = plan.weight[t];
            for (int sum = all; sum >= w; sum--) {
                if (soonest[sum - w] != NEVER) {
                    int through = Math.max(soonest[sum - w], plan.start[t]) + plan.passage(t);
                    soonest[sum] = Math.min(soonest[sum], through);
                }
            }
        }

        private void chooseThings(Plan plan, int door) {
            number = 0;
            for (int t = 0; t < plan.things; t++) {
                if (plan.door[t] == door && number < THINGS_MOST) {
                    int place = number;
                    while (place > 0 && plan.start[order[place - 1]] > plan.start[t]) {
                        order[place] = order[place - 1];
                        place--;
                    }
                    order[place] = t;
                    number++;
                }
            }
        }
    }

    /** Who has more than half of all pounds: persons with one another, and parties. */
    private static final class Scales {
        private static final int ORDERS = 24;

        private int all;
        private int persons;
        private final int[] own = new int[PERSONS_MOST];
        private final int[] sums = new int[1 << PERSONS_MOST];
        private final int[] partyOwn = new int[PARTIES];

        private void weighPersons(Plan plan) {
            all = plan.allPounds();
            persons = plan.persons;
            for (int p = 0; p < persons; p++) {
                own[p] = plan.ownPounds(p);
            }
            sums[0] = 0;
            for (int set = 1; set < 1 << persons; set++) {
                sums[set] = sums[set & (set - 1)] + own[lowestOf(set)];
            }
        }

        private int swingsOf(int person) {
            if (person < 0 || person >= persons) {
                return 0;
            }
            int swings = 0;
            for (int set = 0; set < 1 << persons; set++) {
                if (!isIn(person, set) && !isMore(sums[set]) && isMore(sums[set] + own[person])) {
                    swings++;
                }
            }
            return swings;
        }

        private void weighParties(Plan plan) {
            all = plan.allPounds();
            for (int party = 0; party < PARTIES; party++) {
                partyOwn[party] = 0;
            }
            for (int p = 0; p < plan.persons; p++) {
                int party = plan.party[p];
                if (party >= 0 && party < PARTIES) {
                    partyOwn[party] += plan.ownPounds(p);
                }
            }
        }

        private boolean isMore(int pounds) {
            return 2 * pounds > all;
        }

        private boolean isWinning(int parties) {
            int pounds = 0;
            for (int party = 0; party < PARTIES; party++) {
                if (isIn(party, parties)) {
                    pounds += partyOwn[party];
                }
            }
            return isMore(pounds);
        }

        private boolean isHoldingTogether(int parties) {
            if (!isWinning(parties)) {
                return false;
            }
            for (int party = 0; party < PARTIES; party++) {
                if (isIn(party, parties) && isWinning(parties ^ 1 << party)) {
                    return false;
                }
            }
            return true;
        }

        /** In how many of all orders the parties up to this one win, and without it do not. */
        private int ordersTurnedBy(int party) {
            int orders = 0;
            for (int ahead = 0; ahead < 1 << PARTIES; ahead++) {
                if (!isIn(party, ahead) && !isWinning(ahead) && isWinning(ahead | 1 << party)) {
                    orders += ordersWithAhead(Integer.bitCount(ahead));
                }
            }
            return orders;
        }

        /** So many orders has each set of that many parties ahead, with those behind: k! by (3 - k)!. */
        private static int ordersWithAhead(int number) {
            return number == 0 || number == PARTIES - 1 ? 6 : 2;
        }
    }

    /** The sets of things that are hollow, if all votes are right. */
    private static final class Hollows {
        private boolean known;
        private int sets;
        private int inAll;
        private int inAny;
        private int fewest;
        /** By how much more than told those for each vote weigh with the set that is looked at. */
        private final int[] over = new int[VOTES_MOST];
        private final int[] change = new int[VOTES_MOST * THINGS_MOST];

        /** Each set is one thing away from the one looked at before it, so that only that one is weighed. */
        private void find(Plan plan, Ballots ballots) {
            sets = 0;
            inAll = plan.allThings();
            inAny = 0;
            weighAll(plan, ballots);
            int set = 0;
            lookAt(set, ballots.number);
            for (int step = 1; step < 1 << plan.things; step++) {
                int thing = lowestOf(step);
                set ^= 1 << thing;
                turn(thing, isIn(thing, set) ? 1 : -1, ballots.number);
                lookAt(set, ballots.number);
            }
            known = true;
        }

        private void weighAll(Plan plan, Ballots ballots) {
            for (int v = 0; v < ballots.number; v++) {
                over[v] = -ballots.more[v];
                for (int t = 0; t < plan.things; t++) {
                    int side = isIn(plan.owner[t], ballots.pro[v]) ? 1 : isIn(plan.owner[t], ballots.con[v]) ? -1 : 0;
                    over[v] += side * plan.weight[t];
                    change[v * THINGS_MOST + t] = side * (plan.weight[t] / 2 - plan.weight[t]);
                }
            }
        }

        private void turn(int thing, int sign, int votes) {
            for (int v = 0; v < votes; v++) {
                over[v] += sign * change[v * THINGS_MOST + thing];
            }
        }

        private void lookAt(int set, int votes) {
            for (int v = 0; v < votes; v++) {
                if (over[v] != 0) {
                    return;
                }
            }
            if (sets == 0 || isFewer(set)) {
                fewest = set;
            }
            sets++;
            inAll &= set;
            inAny |= set;
        }

        private boolean isFewer(int set) {
            int size = Integer.bitCount(set);
            int best = Integer.bitCount(fewest);
            return size < best || size == best && set < fewest;
        }
    }
}
