import java.util.Arrays;
import java.util.NoSuchElementException;

/** A court that is a ghost train. The document's promises stand in its order; the engine is in the classes below. */
public final class GhostAssize {
    public static final int NONE = -1;

    private static final int SLOTS = 10;
    private static final int PROPS = 8;
    private static final int PEOPLE = 6;
    private static final int DEEDS = 6;
    private static final int TEXTS = 12;
    private static final int TAPE_MOST = 400;

    private static final int JERK_MOST = 20;
    private static final int WORN_MOST = 99;
    private static final int NERVE_MOST = 60;
    private static final int CALM_MOST = 9;
    private static final int ECHO_MOST = 20;
    private static final int DAY_TOLD_MOST = 999;
    private static final int DAY_MOST = 9999;
    private static final int TENSE_ASKED_MOST = 99;
    private static final int MORNINGS_MOST = 60;
    private static final int TRIALS_MOST = 20;
    private static final int SPAN_SEEDS = 6;
    private static final int WORN_OUT = 50;
    private static final int LASTS_MOST = 60;
    private static final int ALL_ODDS = 10000;
    private static final int HALF_ODDS = 5000;

    // The words of both texts, their letters one behind another in a number. None has eight, so that of a longer word,
    // which keeps its last eight letters, is none of them.
    private static final long PROP_WORD = 0x70726f70L;
    private static final long JERK_WORD = 0x6a65726bL;
    private static final long AT_WORD = 0x6174L;
    private static final long WORN_WORD = 0x776f726eL;
    private static final long ACCUSED_WORD = 0x61636375736564L;
    private static final long NERVE_WORD = 0x6e65727665L;
    private static final long DID_WORD = 0x646964L;
    private static final long KNOWS_WORD = 0x6b6e6f7773L;
    private static final long CALM_WORD = 0x63616c6dL;
    private static final long ECHO_WORD = 0x6563686fL;
    private static final long DAY_WORD = 0x646179L;
    private static final long FRIGHT_WORD = 0x667269676874L;
    private static final long EASE_WORD = 0x65617365L;
    private static final long WEAR_WORD = 0x77656172L;
    private static final long IF_WORD = 0x6966L;
    private static final long OR_WORD = 0x6f72L;
    private static final long AND_WORD = 0x616e64L;
    private static final long NOT_WORD = 0x6e6f74L;
    private static final long GUILTY_WORD = 0x6775696c7479L;
    private static final long SLOT_WORD = 0x736c6f74L;
    private static final long TENSE_WORD = 0x74656e7365L;

    private static final int WAITS = 0;
    private static final int LET_GO = 1;
    private static final int HELD = 2;
    private static final int INSIDE = 3;

    private final Court now;
    private final Court draft;
    private final Court kept;
    private boolean isKept = false;
    private final Past past;
    private final Tape tape = new Tape();
    private final CourtText courtText;
    private final LawText lawText;
    private final Ride ride;
    private final Ride beside;
    private final Ways jolts;
    private final Suspects suspects = new Suspects();
    private final int[] loudness = new int[SLOTS];
    private final int[] heard = new int[PROPS + 1];
    private int wrongByte = NONE;

    // ---- 1 to 6: the tape and the texts

    public GhostAssize() {
        Law noLaw = new Law(0, false, new int[0], new int[0], new int[1], new int[0]);
        now = new Court(noLaw);
        draft = new Court(noLaw);
        kept = new Court(noLaw);
        past = new Past(noLaw);
        courtText = new CourtText(tape, draft);
        lawText = new LawText(tape);
        ride = new Ride(now);
        beside = new Ride(now);
        jolts = new Ways(now, ride);
    }

    public int feed(int a, int b, int c, int d, int e) {
        if (!tape.hasRoom(20)) {
            return NONE;
        }
        tape.put(a);
        tape.put(b);
        tape.put(c);
        tape.put(d);
        tape.put(e);
        return tape.length;
    }

    public boolean end(int n) {
        if (n < 0 || n > tape.length) {
            return false;
        }
        tape.length = n;
        return true;
    }

    public int court() throws IllegalArgumentException, UnsupportedOperationException {
        draft.become(now);
        boolean right = courtText.read();
        wrongByte = right ? NONE : tape.begin;
        tape.length = 0;
        if (!right) {
            throw new IllegalArgumentException("the text of the court is wrong");
        }
        if (now.texts >= TEXTS) {
            throw new UnsupportedOperationException("there are 12 texts");
        }
        now.become(draft);
        now.texts++;
        past.forget();
        return now.texts;
    }

    public int law() throws IllegalArgumentException {
        Law read = lawText.read();
        wrongByte = read != null ? NONE : tape.begin;
        tape.length = 0;
        if (read == null) {
            throw new IllegalArgumentException("the text of the law is wrong");
        }
        now.law = read;
        past.forget();
        return read.lines;
    }

    public int fault() {
        return wrongByte;
    }

    // ---- 7 to 10: what there is

    public int prop(int prop, int what) throws IndexOutOfBoundsException, NoSuchElementException {
        needProp(prop);
        switch (what) {
            case 0:
                return now.deed[prop];
            case 1:
                return now.jerk[prop];
            case 2:
                return now.worn[prop];
            case 3:
                return now.where[prop];
            default:
                throw new NoSuchElementException("a prop has 0 to 3");
        }
    }

    public int slot(int slot) throws IndexOutOfBoundsException {
        needSlot(slot);
        return now.track[slot];
    }

    public int accused(int one, int what) throws IndexOutOfBoundsException, NoSuchElementException {
        needOne(one);
        switch (what) {
            case 0:
                return now.deeds[one];
            case 1:
                return now.nerve[one];
            case 2:
                return now.knows[one];
            case 3:
                return now.state[one];
            default:
                throw new NoSuchElementException("an accused has 0 to 3");
        }
    }

    public int fright(int one, int slot, int tense, boolean wears)
            throws IndexOutOfBoundsException, IllegalArgumentException {
        needOne(one);
        needSlot(slot);
        if (tense < 0 || tense > TENSE_ASKED_MOST) {
            throw new IllegalArgumentException("tense is 0 to 99");
        }
        if (now.track[slot] < 0) {
            return 0;
        }
        ride.lay();
        ride.board(one);
        int[] facts = ride.meet(slot, tense);
        return wears ? now.law.wearsBy(facts) : now.law.frightsBy(facts);
    }

    // ---- 11 to 18: acts

    public int send(int one) throws IndexOutOfBoundsException, IllegalStateException {
        needOne(one);
        needState(one, WAITS);
        past.remember(now);
        ride.lay();
        ride.board(one);
        ride.seed = now.seed;
        ride.byDraws();
        ride.wearOn();
        System.arraycopy(ride.worn, 0, now.worn, 0, PROPS);
        now.seed = ride.seed;
        now.knows[one] = ride.knows;
        now.state[one] = ride.scream != NONE ? LET_GO : HELD;
        now.log.add(now.day, one, ride.scream != NONE ? ride.scream : SLOTS, ride.tense);
        return ride.scream;
    }

    public void nail(int prop, int slot) throws IndexOutOfBoundsException, IllegalStateException {
        needProp(prop);
        needSlot(slot);
        if (now.where[prop] >= 0 || now.track[slot] >= 0) {
            throw new IllegalStateException("it is nailed, or there is a prop");
        }
        past.remember(now);
        now.hang(prop, slot);
    }

    public int down(int slot) throws IndexOutOfBoundsException, IllegalStateException {
        needSlot(slot);
        int prop = now.track[slot];
        if (prop < 0) {
            throw new IllegalStateException("there is no prop");
        }
        past.remember(now);
        now.track[slot] = NONE;
        now.where[prop] = NONE;
        return prop;
    }

    public int mend(int prop) throws IndexOutOfBoundsException {
        needProp(prop);
        past.remember(now);
        int was = now.worn[prop];
        now.worn[prop] = 0;
        return was;
    }

    public void recall(int one) throws IndexOutOfBoundsException, IllegalStateException {
        needOne(one);
        needState(one, HELD);
        past.remember(now);
        now.state[one] = WAITS;
    }

    public int inside(int one) throws IndexOutOfBoundsException, IllegalStateException {
        needOne(one);
        needState(one, WAITS);
        past.remember(now);
        now.state[one] = INSIDE;
        return Integer.bitCount(now.peopleOf(INSIDE));
    }

    public int calm(int n) throws IllegalArgumentException {
        if (n < 0 || n > CALM_MOST) {
            throw new IllegalArgumentException("calm is 0 to 9");
        }
        past.remember(now);
        int was = now.calm;
        now.calm = n;
        return was;
    }

    public int mornings(int n) throws IllegalArgumentException {
        if (n < 1 || n > MORNINGS_MOST) {
            throw new IllegalArgumentException("mornings are 1 to 60");
        }
        past.remember(now);
        now.day = Math.min(DAY_MOST, now.day + n);
        int together = 0;
        for (int prop = 0; prop < now.props; prop++) {
            if (now.where[prop] >= 0) {
                now.worn[prop] = Math.max(0, now.worn[prop] - n);
                together += now.worn[prop];
            }
        }
        return together;
    }

    // ---- 19 to 27: straight rides, ways, odds, gap

    public int straight(int one) throws IndexOutOfBoundsException {
        needOne(one);
        rideStraight(one);
        return ride.scream;
    }

    public int tense(int one, int slot) throws IndexOutOfBoundsException {
        needOne(one);
        needSlot(slot);
        rideStraight(one);
        return ride.behind[slot];
    }

    public int ways(int one) throws IndexOutOfBoundsException {
        needOne(one);
        ride.lay();
        jolts.countOf(one);
        return jolts.screams;
    }

    public int at(int one, int slot) throws IndexOutOfBoundsException {
        needOne(one);
        needSlot(slot);
        ride.lay();
        jolts.countOf(one);
        return jolts.ends[slot];
    }

    public int odds(int one) throws IndexOutOfBoundsException {
        needOne(one);
        ride.lay();
        return jolts.oddsOf(one);
    }

    public int gap() {
        ride.lay();
        return gapAsLaid();
    }

    public int errors(boolean innocent) {
        ride.lay();
        int many = 0;
        for (int one = 0; one < now.people; one++) {
            if (now.waits(one) && now.isInnocent(one) == innocent) {
                boolean isLetGo = jolts.oddsOf(one) >= HALF_ODDS;
                many += isLetGo != innocent ? 1 : 0;
            }
        }
        return many;
    }

    public int swap() {
        ride.lay();
        int best = NONE;
        int most = gapAsLaid();
        for (int slot = 0; slot < SLOTS; slot++) {
            for (int other = slot + 1; other < SLOTS; other++) {
                if (ride.track[slot] == ride.track[other]) {
                    continue;
                }
                ride.changeAbout(slot, other);
                int made = gapAsLaid();
                ride.changeAbout(slot, other);
                if (made > most) {
                    most = made;
                    best = 10 * slot + other;
                }
            }
        }
        return best;
    }

    public int next() {
        ride.lay();
        int best = NONE;
        int most = 0;
        for (int prop = 0; prop < now.props; prop++) {
            for (int slot = 0; slot < SLOTS; slot++) {
                if (now.where[prop] >= 0 || now.track[slot] >= 0) {
                    continue;
                }
                ride.track[slot] = prop;
                int made = gapAsLaid();
                ride.track[slot] = NONE;
                if (best == NONE || made > most) {
                    most = made;
                    best = 10 * prop + slot;
                }
            }
        }
        return best;
    }

    // ---- 28 to 31: somebody unknown, two in a car, quiet corners

    public int found(int nerve, boolean sure) throws IllegalArgumentException {
        if (!sift(nerve)) {
            throw new IllegalArgumentException("the tape is not that, or nerve is none");
        }
        return sure ? suspects.deedsOfAll() : suspects.howMany();
    }

    public int ask(int nerve) throws IllegalArgumentException {
        if (!sift(nerve)) {
            throw new IllegalArgumentException("the tape is not that, or nerve is none");
        }
        return suspects.bestSlot(now.track);
    }

    public int car(int one, int other) throws IndexOutOfBoundsException, IllegalArgumentException {
        needOne(one);
        needOne(other);
        if (one == other) {
            throw new IllegalArgumentException("both are one");
        }
        ride.lay();
        ride.board(one);
        ride.start();
        beside.lay();
        beside.board(other);
        beside.start();
        for (int slot = 0; slot < SLOTS; slot++) {
            boolean isOne = ride.screamsIn(slot);
            boolean isOther = beside.screamsIn(slot);
            if (isOne && !isOther) {
                beside.hear(slot, now.echo);
            }
            if (isOther && !isOne) {
                ride.hear(slot, now.echo);
            }
        }
        return (ride.scream != NONE ? 1 : 0) | (beside.scream != NONE ? 2 : 0);
    }

    public int corners(int one) throws IndexOutOfBoundsException {
        needOne(one);
        rideStraight(one);
        int bits = 0;
        for (int slot = 0; slot < SLOTS; slot++) {
            boolean isComeTo = ride.behind[slot] != NONE;
            if (isComeTo && ride.track[slot] < 0 && ride.behind[slot] >= ride.nerve / 2) {
                bits |= 1 << slot;
            }
        }
        return bits;
    }

    // ---- 32 to 36: covers, slots left empty, the bravest, alike, ushers

    public int cover() {
        int wanted = 0;
        for (int one = 0; one < now.people; one++) {
            wanted |= now.waits(one) ? now.deeds[one] : 0;
        }
        // A prop shows one deed alone, so the first prop of each deed makes both the fewest and the least bits.
        int bits = 0;
        for (int prop = 0; prop < now.props; prop++) {
            int deed = 1 << now.deed[prop];
            if ((wanted & deed) != 0) {
                bits |= 1 << prop;
                wanted &= ~deed;
            }
        }
        return bits;
    }

    public int leave() {
        int nailed = nailedProps();
        int best = nailed;
        int fewest = Integer.bitCount(nailed);
        for (int set = 0; set < 1 << PROPS; set++) {
            boolean mayBeBetter = (set & ~nailed) == 0 && Integer.bitCount(set) < fewest;
            if (mayBeBetter && isQuietWithout(set)) {
                best = set;
                fewest = Integer.bitCount(set);
            }
        }
        return best;
    }

    public int bravest() {
        ride.lay();
        int best = NONE;
        int least = 0;
        for (int one = 0; one < now.people; one++) {
            if (now.waits(one)) {
                int its = jolts.oddsOf(one);
                if (best == NONE || its < least) {
                    least = its;
                    best = one;
                }
            }
        }
        return best;
    }

    public int alike() {
        int pairs = 0;
        for (int one = 0; one < now.people; one++) {
            for (int other = one + 1; other < now.people; other++) {
                if (now.deeds[one] == now.deeds[other] && now.nerve[one] == now.nerve[other]) {
                    pairs++;
                }
            }
        }
        return pairs;
    }

    public int usher(int one) throws IndexOutOfBoundsException {
        needOne(one);
        int choices = nailedProps() << 1 | 1;
        hearAllChoices(one, choices);
        int anyUsher = 0;
        for (int taken = 0; taken <= PROPS; taken++) {
            anyUsher |= heard[taken];
        }
        int pairs = 0;
        for (int taken = 0; taken <= PROPS; taken++) {
            if ((choices >> taken & 1) == 0) {
                continue;
            }
            // The accused may turn to any quiet choice of the same row, the usher to any loud one of the same column.
            if (heard[taken] == choices) {
                pairs += Integer.bitCount(choices);
            }
            pairs += Integer.bitCount(choices & ~heard[taken] & ~anyUsher);
        }
        return pairs;
    }

    // ---- 37 to 43: how long, all, shares, the loudest, trials, the log's rows

    public int lasts(int prop, int one) throws IndexOutOfBoundsException {
        needProp(prop);
        needOne(one);
        ride.lay();
        ride.board(one);
        for (int rides = 0; rides <= LASTS_MOST; rides++) {
            if (ride.worn[prop] >= WORN_OUT) {
                return rides;
            }
            ride.straightOn();
            ride.wearOn();
        }
        return NONE;
    }

    public int all(boolean queue) {
        ride.lay();
        int bits = 0;
        for (int one = 0; one < now.people; one++) {
            if (now.waits(one)) {
                ride.board(one);
                ride.straightOn();
                bits |= ride.scream != NONE ? 1 << one : 0;
                if (queue) {
                    ride.wearOn();
                }
            }
        }
        return bits;
    }

    public int share(int prop, int one) throws IndexOutOfBoundsException {
        needProp(prop);
        needOne(one);
        rideStraight(one);
        int together = 0;
        for (int slot = 0; slot < SLOTS; slot++) {
            together += ride.frights[slot];
        }
        int slot = now.where[prop];
        return slot < 0 || together == 0 ? 0 : ride.frights[slot] * 100 / together;
    }

    public int loudest() {
        ride.lay();
        Arrays.fill(loudness, 0);
        for (int one = 0; one < now.people; one++) {
            if (now.waits(one)) {
                jolts.countOf(one);
                for (int slot = 0; slot < SLOTS; slot++) {
                    loudness[slot] += jolts.ends[slot];
                }
            }
        }
        int best = NONE;
        int most = 0;
        for (int prop = 0; prop < now.props; prop++) {
            int slot = now.where[prop];
            if (slot >= 0 && loudness[slot] > most) {
                most = loudness[slot];
                best = prop;
            }
        }
        return best;
    }

    public int trial(int n) throws IllegalArgumentException {
        needTrials(n);
        return screamsOfTrials(n, now.seed);
    }

    public int span(int n, boolean most) throws IllegalArgumentException {
        needTrials(n);
        int best = screamsOfTrials(n, 1);
        for (int seed = 2; seed <= SPAN_SEEDS; seed++) {
            int made = screamsOfTrials(n, seed);
            best = most ? Math.max(best, made) : Math.min(best, made);
        }
        return best;
    }

    public int led(int one, boolean scream) throws IndexOutOfBoundsException {
        needOne(one);
        int many = 0;
        for (int ago = 0; ago < now.log.rows; ago++) {
            boolean counts = !scream || now.log.cell(ago, 2) < SLOTS;
            many += counts && now.log.cell(ago, 1) == one ? 1 : 0;
        }
        return many;
    }

    // ---- 44 to 49: the log, the seed, acts undone, the image, counts

    public int log(int ago, int what) throws NoSuchElementException {
        if (what < 0 || what >= Log.CELLS) {
            throw new NoSuchElementException("a row has 0 to 3");
        }
        return now.log.cell(ago, what);
    }

    public int seed(int n) {
        int was = now.seed;
        now.seed = n;
        return was;
    }

    public boolean undo() {
        return past.takeBack(now);
    }

    public void image() {
        kept.become(now);
        isKept = true;
    }

    public boolean back() {
        if (!isKept) {
            return false;
        }
        now.become(kept);
        past.forget();
        return true;
    }

    public int count(int what) {
        switch (what) {
            case 0:
                return now.props;
            case 1:
                return now.people;
            case 2:
                return now.texts;
            case 3:
                return now.law.isTold ? now.law.lines : NONE;
            case 4:
                return now.day;
            case 5:
                return now.calm;
            case 6:
                return now.echo;
            case 7:
                return slotsWithProp();
            case 8:
            case 9:
            case 10:
            case 11:
                return now.peopleOf(what - 8);
            case 12:
                return wornTogether();
            case 13:
                return now.log.rows;
            case 14:
                return past.acts;
            default:
                return NONE;
        }
    }

    // ---- what the promises share

    private void needProp(int prop) {
        if (prop < 0 || prop >= now.props) {
            throw new IndexOutOfBoundsException("there is no such prop");
        }
    }

    private void needSlot(int slot) {
        if (slot < 0 || slot >= SLOTS) {
            throw new IndexOutOfBoundsException("there is no such slot");
        }
    }

    private void needOne(int one) {
        if (one < 0 || one >= now.people) {
            throw new IndexOutOfBoundsException("there is nobody of that number");
        }
    }

    private void needState(int one, int state) {
        if (now.state[one] != state) {
            throw new IllegalStateException("that one does not wait, or is not held");
        }
    }

    private void needTrials(int n) {
        if (n < 0 || n > TRIALS_MOST) {
            throw new IllegalArgumentException("trials are 0 to 20");
        }
    }

    private void rideStraight(int one) {
        ride.lay();
        ride.board(one);
        ride.straightOn();
    }

    /** GAP on the track that is laid for the ride, which may be another than the court's. */
    private int gapAsLaid() {
        int sum = 0;
        for (int one = 0; one < now.people; one++) {
            if (now.waits(one)) {
                int its = jolts.oddsOf(one);
                sum += now.isInnocent(one) ? its : -its;
            }
        }
        return sum;
    }

    private boolean sift(int nerve) {
        boolean right = tape.tellsFrights() && nerve >= 1 && nerve <= NERVE_MOST;
        if (right) {
            ride.lay();
            suspects.sift(ride, nerve, tape);
        }
        tape.length = 0;
        return right;
    }

    private int nailedProps() {
        int bits = 0;
        for (int prop = 0; prop < now.props; prop++) {
            bits |= now.where[prop] >= 0 ? 1 << prop : 0;
        }
        return bits;
    }

    private int slotsWithProp() {
        int bits = 0;
        for (int slot = 0; slot < SLOTS; slot++) {
            bits |= now.track[slot] >= 0 ? 1 << slot : 0;
        }
        return bits;
    }

    private int wornTogether() {
        int sum = 0;
        for (int prop = 0; prop < now.props; prop++) {
            sum += now.worn[prop];
        }
        return sum;
    }

    private boolean isQuietWithout(int props) {
        ride.lay();
        ride.takeDown(props);
        for (int one = 0; one < now.people; one++) {
            if (now.waits(one) && !now.isInnocent(one)) {
                ride.board(one);
                ride.straightOn();
                if (ride.scream != NONE) {
                    return false;
                }
            }
        }
        return true;
    }

    /** Choice 0 is none, any other the prop of one number less; heard: by the one taken down, the loud ones to ease. */
    private void hearAllChoices(int one, int choices) {
        for (int taken = 0; taken <= PROPS; taken++) {
            heard[taken] = 0;
            for (int eased = 0; eased <= PROPS; eased++) {
                if ((choices >> taken & choices >> eased & 1) == 0) {
                    continue;
                }
                ride.lay();
                ride.takeDown(1 << taken >> 1);
                ride.board(one);
                ride.eased = eased - 1;
                ride.straightOn();
                heard[taken] |= ride.scream != NONE ? 1 << eased : 0;
            }
        }
    }

    private int screamsOfTrials(int n, int seed) {
        ride.lay();
        ride.seed = seed;
        int screams = 0;
        for (int round = 0; round < n; round++) {
            for (int one = 0; one < now.people; one++) {
                if (now.waits(one)) {
                    ride.board(one);
                    ride.byDraws();
                    screams += ride.scream != NONE ? 1 : 0;
                }
            }
        }
        return screams;
    }

    /** All that an act, a text or going back may change. */
    private static final class Court {
        int props = 0;
        int people = 0;
        int texts = 0;
        int calm = 2;
        int echo = 10;
        int day = 0;
        int seed = 1;
        final int[] deed = new int[PROPS];
        final int[] jerk = new int[PROPS];
        final int[] worn = new int[PROPS];
        final int[] where = new int[PROPS];
        final int[] track = new int[SLOTS];
        final int[] deeds = new int[PEOPLE];
        final int[] nerve = new int[PEOPLE];
        final int[] knows = new int[PEOPLE];
        final int[] state = new int[PEOPLE];
        final Log log = new Log();
        Law law;

        Court(Law first) {
            law = first;
            Arrays.fill(where, NONE);
            Arrays.fill(track, NONE);
        }

        boolean waits(int one) {
            return state[one] == WAITS;
        }

        boolean isInnocent(int one) {
            return deeds[one] == 0;
        }

        int peopleOf(int which) {
            int bits = 0;
            for (int one = 0; one < people; one++) {
                bits |= state[one] == which ? 1 << one : 0;
            }
            return bits;
        }

        void hang(int prop, int slot) {
            where[prop] = slot;
            track[slot] = prop;
        }

        void become(Court other) {
            props = other.props;
            people = other.people;
            texts = other.texts;
            calm = other.calm;
            echo = other.echo;
            day = other.day;
            seed = other.seed;
            System.arraycopy(other.deed, 0, deed, 0, PROPS);
            System.arraycopy(other.jerk, 0, jerk, 0, PROPS);
            System.arraycopy(other.worn, 0, worn, 0, PROPS);
            System.arraycopy(other.where, 0, where, 0, PROPS);
            System.arraycopy(other.track, 0, track, 0, SLOTS);
            System.arraycopy(other.deeds, 0, deeds, 0, PEOPLE);
            System.arraycopy(other.nerve, 0, nerve, 0, PEOPLE);
            System.arraycopy(other.knows, 0, knows, 0, PEOPLE);
            System.arraycopy(other.state, 0, state, 0, PEOPLE);
            log.become(other.log);
            law = other.law;
        }
    }

    /** The latest rides that were sent; the oldest row gives way to a new one. */
    private static final class Log {
        static final int CELLS = 4;
        private static final int ROWS = 60;

        int rows = 0;
        private int free = 0;
        private final int[] cells = new int[ROWS * CELLS];

        void add(int day, int one, int slot, int tense) {
            int cell = free * CELLS;
            cells[cell] = day;
            cells[cell + 1] = one;
            cells[cell + 2] = slot;
            cells[cell + 3] = tense;
            free = (free + 1) % ROWS;
            rows = Math.min(ROWS, rows + 1);
        }

        int cell(int ago, int what) {
            if (ago < 0 || ago >= rows || what < 0 || what >= CELLS) {
                return NONE;
            }
            int row = (free + ROWS - 1 - ago) % ROWS;
            return cells[row * CELLS + what];
        }

        void become(Log other) {
            rows = other.rows;
            free = other.free;
            System.arraycopy(other.cells, 0, cells, 0, ROWS * CELLS);
        }
    }

    /** What the court was ahead of the latest acts. */
    private static final class Past {
        private static final int MOST = 12;

        int acts = 0;
        private int free = 0;
        private final Court[] ahead = new Court[MOST];

        Past(Law first) {
            for (int i = 0; i < MOST; i++) {
                ahead[i] = new Court(first);
            }
        }

        void remember(Court court) {
            ahead[free].become(court);
            free = (free + 1) % MOST;
            acts = Math.min(MOST, acts + 1);
        }

        boolean takeBack(Court court) {
            if (acts == 0) {
                return false;
            }
            free = (free + MOST - 1) % MOST;
            acts--;
            court.become(ahead[free]);
            return true;
        }

        void forget() {
            acts = 0;
        }
    }

    /** A law that was read; never changed, so that courts may share it. */
    private static final class Law {
        static final int PROP = 0;
        static final int SLOT = 1;
        static final int JERK = 2;
        static final int WORN = 3;
        static final int TENSE = 4;
        static final int NERVE = 5;
        static final int KNOWS = 6;
        static final int GUILTY = 7;
        static final int FACTS = 8;

        static final int FRIGHT = 0;
        static final int EASE = 1;
        static final int WEAR = 2;
        static final int MOST_LINES = 12;
        static final int MOST_EACH = 30;

        // Conditions stand as postfix code. IS: a fact; LESS, MORE: a number, how many parts, the parts.
        static final int NOT = 0;
        static final int AND = 1;
        static final int OR = 2;
        static final int IS = 3;
        static final int LESS = 4;
        static final int MORE = 5;

        final int lines;
        final boolean isTold;
        private final int[] kind;
        private final int[] amount;
        private final int[] start;
        private final int[] code;

        Law(int lines, boolean isTold, int[] kind, int[] amount, int[] start, int[] code) {
            this.lines = lines;
            this.isTold = isTold;
            this.kind = kind;
            this.amount = amount;
            this.start = start;
            this.code = code;
        }

        int frightsBy(int[] facts) {
            int sum = facts[JERK] - facts[WORN] / 10;
            for (int line = 0; line < lines; line++) {
                if (kind[line] != WEAR && holds(line, facts)) {
                    sum += kind[line] == FRIGHT ? amount[line] : -amount[line];
                }
            }
            return Math.max(0, sum);
        }

        int wearsBy(int[] facts) {
            int sum = 1;
            for (int line = 0; line < lines; line++) {
                if (kind[line] == WEAR && holds(line, facts)) {
                    sum += amount[line];
                }
            }
            return sum;
        }

        /** The stack is the bits of a number: 6 deep in one another there are 15 at most at once. */
        private boolean holds(int line, int[] facts) {
            int end = start[line + 1];
            int stack = 1;
            int i = start[line];
            while (i < end) {
                int step = code[i];
                i++;
                if (step == NOT) {
                    stack ^= 1;
                } else if (step == AND) {
                    stack = stack >> 1 & (stack | ~1);
                } else if (step == OR) {
                    stack = stack >> 1 | stack & 1;
                } else if (step == IS) {
                    stack = stack << 1 | facts[code[i]];
                    i++;
                } else {
                    int sum = code[i];
                    int last = i + 1 + code[i + 1];
                    for (i += 2; i <= last; i++) {
                        int part = code[i];
                        sum += part >= 0 ? facts[part] : -facts[~part];
                    }
                    boolean is = step == LESS ? sum < 0 : sum > 0;
                    stack = stack << 1 | (is ? 1 : 0);
                }
            }
            return (stack & 1) == 1;
        }
    }

    /** The bytes that were fed, and the things in them as a text: words, numbers, signs. */
    private static final class Tape {
        private static final int ENDED = 0;
        private static final int WORD = 1;
        private static final int NUMBER = 2;
        private static final int SIGN = 3;
        private static final int DIGITS = 3;
        private static final long NO_WORD = 0;
        private static final int FRIGHT_BYTES = 40;

        int length = 0;
        int begin = 0;
        private int end = 0;
        private int kind = ENDED;
        private long word = NO_WORD;
        private final int[] bytes = new int[TAPE_MOST];

        boolean hasRoom(int more) {
            return length + more <= TAPE_MOST;
        }

        void put(int number) {
            if (hasRoom(4)) {
                for (int shift = 24; shift >= 0; shift -= 8) {
                    bytes[length] = number >> shift & 255;
                    length++;
                }
            }
        }

        boolean tellsFrights() {
            if (length > FRIGHT_BYTES || length % 2 != 0) {
                return false;
            }
            for (int i = 0; i < length; i += 2) {
                if (bytes[i] >= SLOTS) {
                    return false;
                }
            }
            return true;
        }

        int byteAt(int i) {
            return i >= 0 && i < length ? bytes[i] : NONE;
        }

        void open() {
            end = 0;
            advance();
        }

        void advance() {
            begin = end;
            while (begin < length && bytes[begin] == ' ') {
                begin++;
            }
            end = begin;
            word = NO_WORD;
            if (begin >= length) {
                kind = ENDED;
            } else if (bytes[begin] >= 'a' && bytes[begin] <= 'z') {
                kind = WORD;
                while (end < length && bytes[end] >= 'a' && bytes[end] <= 'z') {
                    word = word << 8 | bytes[end];
                    end++;
                }
            } else if (bytes[begin] >= '0' && bytes[begin] <= '9') {
                kind = NUMBER;
                while (end < length && bytes[end] >= '0' && bytes[end] <= '9') {
                    end++;
                }
            } else {
                kind = SIGN;
                end++;
            }
        }

        boolean isEnded() {
            return kind == ENDED;
        }

        boolean isWord(long asked) {
            return word == asked;
        }

        boolean isSign(char sign) {
            return kind == SIGN && bytes[begin] == sign;
        }

        boolean takeWord(long asked) {
            boolean is = isWord(asked);
            if (is) {
                advance();
            }
            return is;
        }

        boolean takeSign(char sign) {
            boolean is = isSign(sign);
            if (is) {
                advance();
            }
            return is;
        }

        /** The number that stands here, without going on; NONE, if there is none of 1 to 3 digits in these bounds. */
        int number(int low, int high) {
            if (kind != NUMBER || end - begin > DIGITS) {
                return NONE;
            }
            int value = 0;
            for (int i = begin; i < end; i++) {
                value = value * 10 + bytes[i] - '0';
            }
            return value >= low && value <= high ? value : NONE;
        }

        /** The one letter that stands here as a deed, without going on; NONE, if it is none such. */
        int letter() {
            boolean isOne = kind == WORD && end - begin == 1 && bytes[begin] < 'a' + DEEDS;
            return isOne ? bytes[begin] - 'a' : NONE;
        }

        /** The word that stands here as deeds, without going on; NONE, if it has other letters or one twice. */
        int deeds() {
            if (kind != WORD) {
                return NONE;
            }
            int bits = 0;
            for (int i = begin; i < end; i++) {
                int deed = bytes[i] - 'a';
                if (deed >= DEEDS || (bits >> deed & 1) == 1) {
                    return NONE;
                }
                bits |= 1 << deed;
            }
            return bits;
        }
    }

    /** Reads a text of the court into a draft. Where it stops, the tape's begin is the first wrong byte. */
    private static final class CourtText {
        private static final int MOST_LINES = 14;

        private final Tape tape;
        private final Court draft;

        CourtText(Tape tape, Court draft) {
            this.tape = tape;
            this.draft = draft;
        }

        boolean read() {
            tape.open();
            if (tape.isEnded()) {
                return true;
            }
            for (int line = 0; line < MOST_LINES; line++) {
                if (!readLine()) {
                    return false;
                }
                if (tape.isEnded()) {
                    return true;
                }
                if (!tape.takeSign(';')) {
                    return false;
                }
            }
            return false;
        }

        private boolean readLine() {
            if (tape.isWord(PROP_WORD)) {
                return draft.props < PROPS && readProp();
            }
            if (tape.isWord(ACCUSED_WORD)) {
                return draft.people < PEOPLE && readAccused();
            }
            if (tape.takeWord(CALM_WORD)) {
                int read = takeNumber(0, CALM_MOST);
                draft.calm = read;
                return read != NONE;
            }
            if (tape.takeWord(ECHO_WORD)) {
                int read = takeNumber(0, ECHO_MOST);
                draft.echo = read;
                return read != NONE;
            }
            if (tape.takeWord(DAY_WORD)) {
                int read = takeNumber(0, DAY_TOLD_MOST);
                draft.day = read;
                return read != NONE;
            }
            return false;
        }

        private boolean readProp() {
            tape.advance();
            int deed = tape.letter();
            if (deed == NONE) {
                return false;
            }
            tape.advance();
            int jerk = tape.takeWord(JERK_WORD) ? takeNumber(0, JERK_MOST) : NONE;
            if (jerk == NONE) {
                return false;
            }
            int slot = NONE;
            if (tape.takeWord(AT_WORD)) {
                slot = tape.number(0, SLOTS - 1);
                if (slot == NONE || draft.track[slot] >= 0) {
                    return false;
                }
                tape.advance();
            }
            int worn = tape.takeWord(WORN_WORD) ? takeNumber(0, WORN_MOST) : 0;
            if (worn == NONE) {
                return false;
            }
            addProp(deed, jerk, worn, slot);
            return true;
        }

        private void addProp(int deed, int jerk, int worn, int slot) {
            int prop = draft.props;
            if (prop < PROPS) {
                draft.deed[prop] = deed;
                draft.jerk[prop] = jerk;
                draft.worn[prop] = worn;
                draft.where[prop] = NONE;
                draft.props = prop + 1;
                if (slot != NONE) {
                    draft.hang(prop, slot);
                }
            }
        }

        private boolean readAccused() {
            tape.advance();
            int nerve = tape.takeWord(NERVE_WORD) ? takeNumber(1, NERVE_MOST) : NONE;
            if (nerve == NONE) {
                return false;
            }
            int deeds = 0;
            if (tape.takeWord(DID_WORD)) {
                deeds = tape.deeds();
                if (deeds == NONE) {
                    return false;
                }
                tape.advance();
            }
            int knows = 0;
            if (tape.takeWord(KNOWS_WORD)) {
                int known = takeNumber(0, draft.props - 1);
                if (known == NONE) {
                    return false;
                }
                knows = 1 << known;
            }
            addAccused(nerve, deeds, knows);
            return true;
        }

        private void addAccused(int nerve, int deeds, int knows) {
            int one = draft.people;
            if (one < PEOPLE) {
                draft.nerve[one] = nerve;
                draft.deeds[one] = deeds;
                draft.knows[one] = knows;
                draft.state[one] = WAITS;
                draft.people = one + 1;
            }
        }

        private int takeNumber(int low, int high) {
            int value = tape.number(low, high);
            if (value != NONE) {
                tape.advance();
            }
            return value;
        }
    }

    /** Reads a text of the law. Where it stops, the tape's begin is the first wrong byte. */
    private static final class LawText {
        private static final int DEEP = 6;
        private static final int NUMBER_MOST = 999;
        // No thing of a text makes more code than it has bytes, but for a comparison's three of three.
        private static final int CODE_MOST = TAPE_MOST + 8;

        private final Tape tape;
        private int lines = 0;
        private int size = 0;
        private final int[] kind = new int[Law.MOST_LINES];
        private final int[] amount = new int[Law.MOST_LINES];
        private final int[] start = new int[Law.MOST_LINES + 1];
        private final int[] code = new int[CODE_MOST];

        LawText(Tape tape) {
            this.tape = tape;
        }

        /** The law; null, if the text is wrong. */
        Law read() {
            lines = 0;
            size = 0;
            tape.open();
            if (tape.isEnded()) {
                return made();
            }
            for (int line = 0; line < Law.MOST_LINES; line++) {
                if (!readLine(line)) {
                    return null;
                }
                lines = line + 1;
                start[lines] = size;
                if (tape.isEnded()) {
                    return made();
                }
                if (!tape.takeSign(';')) {
                    return null;
                }
            }
            return null;
        }

        private Law made() {
            return new Law(lines, true, Arrays.copyOf(kind, lines), Arrays.copyOf(amount, lines),
                    Arrays.copyOf(start, lines + 1), Arrays.copyOf(code, size));
        }

        private boolean readLine(int line) {
            if (tape.takeWord(FRIGHT_WORD)) {
                kind[line] = Law.FRIGHT;
            } else if (tape.takeWord(EASE_WORD)) {
                kind[line] = Law.EASE;
            } else if (tape.takeWord(WEAR_WORD)) {
                kind[line] = Law.WEAR;
            } else {
                return false;
            }
            int each = tape.number(0, Law.MOST_EACH);
            if (each == NONE) {
                return false;
            }
            amount[line] = each;
            tape.advance();
            return !tape.takeWord(IF_WORD) || readCondition(0);
        }

        private boolean readCondition(int deep) {
            boolean isSecond = false;
            for (int i = 0; i < TAPE_MOST; i++) {
                if (!readAtom(deep)) {
                    return false;
                }
                for (int j = 0; j < TAPE_MOST && tape.takeWord(AND_WORD); j++) {
                    if (!readAtom(deep) || !write(Law.AND)) {
                        return false;
                    }
                }
                if (isSecond && !write(Law.OR)) {
                    return false;
                }
                isSecond = true;
                if (!tape.takeWord(OR_WORD)) {
                    return true;
                }
            }
            return false;
        }

        private boolean readAtom(int deep) {
            boolean isNot = tape.isWord(NOT_WORD);
            if (isNot || tape.isSign('(')) {
                if (deep >= DEEP) {
                    return false;
                }
                tape.advance();
                if (isNot) {
                    return readAtom(deep + 1) && write(Law.NOT);
                }
                return readCondition(deep + 1) && tape.takeSign(')');
            }
            if (tape.takeWord(KNOWS_WORD)) {
                return write(Law.IS) && write(Law.KNOWS);
            }
            if (tape.takeWord(GUILTY_WORD)) {
                return write(Law.IS) && write(Law.GUILTY);
            }
            return readComparison();
        }

        /** Numbers of both sides are summed while reading; a part of the right side stands as its complement. */
        private boolean readComparison() {
            int head = size;
            if (!write(Law.LESS) || !write(0) || !write(0)) {
                return false;
            }
            boolean isRight = false;
            for (int i = 0; i < TAPE_MOST; i++) {
                if (!readPart(head, isRight)) {
                    return false;
                }
                if (tape.takeSign('+')) {
                    continue;
                }
                if (isRight) {
                    return true;
                }
                if (tape.isSign('>')) {
                    code[head] = Law.MORE;
                } else if (!tape.isSign('<')) {
                    return false;
                }
                tape.advance();
                isRight = true;
            }
            return false;
        }

        private boolean readPart(int head, boolean isRight) {
            int value = tape.number(0, NUMBER_MOST);
            if (value != NONE) {
                code[head + 1] += isRight ? -value : value;
                tape.advance();
                return true;
            }
            int fact = tape.isWord(PROP_WORD) ? Law.PROP
                    : tape.isWord(SLOT_WORD) ? Law.SLOT
                    : tape.isWord(JERK_WORD) ? Law.JERK
                    : tape.isWord(WORN_WORD) ? Law.WORN
                    : tape.isWord(TENSE_WORD) ? Law.TENSE
                    : tape.isWord(NERVE_WORD) ? Law.NERVE : NONE;
            if (fact == NONE || !write(isRight ? ~fact : fact)) {
                return false;
            }
            code[head + 2]++;
            tape.advance();
            return true;
        }

        private boolean write(int number) {
            if (size >= CODE_MOST) {
                return false;
            }
            code[size] = number;
            size++;
            return true;
        }
    }

    /** One who rides over a track that is laid as the court's and may then be changed for a question. */
    private static final class Ride {
        private final Court court;
        final int[] track = new int[SLOTS];
        final int[] worn = new int[PROPS];
        int deeds = 0;
        int nerve = 0;
        int knows = 0;
        int eased = NONE;
        int seed = 1;
        int scream = NONE;
        int tense = 0;
        final int[] behind = new int[SLOTS];
        final int[] frights = new int[SLOTS];
        private boolean isDrawn = false;
        private boolean isToTheEnd = false;
        private final int[] facts = new int[Law.FACTS];

        Ride(Court court) {
            this.court = court;
        }

        void lay() {
            System.arraycopy(court.track, 0, track, 0, SLOTS);
            System.arraycopy(court.worn, 0, worn, 0, PROPS);
            eased = NONE;
        }

        void takeDown(int props) {
            for (int slot = 0; slot < SLOTS; slot++) {
                if (track[slot] >= 0 && (props >> track[slot] & 1) == 1) {
                    track[slot] = NONE;
                }
            }
        }

        void changeAbout(int slot, int other) {
            int prop = track[slot];
            track[slot] = track[other];
            track[other] = prop;
        }

        void board(int one) {
            boardStranger(court.deeds[one], court.nerve[one], court.knows[one]);
        }

        void boardStranger(int theirDeeds, int theirNerve, int theirKnows) {
            deeds = theirDeeds;
            nerve = theirNerve;
            knows = theirKnows;
        }

        void straightOn() {
            go(false, false);
        }

        void byDraws() {
            go(true, false);
        }

        void toTheEnd() {
            go(false, true);
        }

        private void go(boolean drawn, boolean on) {
            start();
            isDrawn = drawn;
            isToTheEnd = on;
            for (int slot = 0; slot < SLOTS && scream == NONE; slot++) {
                screamsIn(slot);
            }
        }

        void start() {
            scream = NONE;
            tense = 0;
            isDrawn = false;
            isToTheEnd = false;
            Arrays.fill(behind, NONE);
            Arrays.fill(frights, 0);
        }

        /** Comes to a slot, if still riding: whether there is a scream just there. */
        boolean screamsIn(int slot) {
            if (scream != NONE) {
                return false;
            }
            if (track[slot] < 0) {
                tense = Math.max(0, tense - court.calm);
            } else {
                int by = track[slot] == eased ? 0 : court.law.frightsBy(meet(slot, tense));
                frights[slot] = by;
                tense += by + (isDrawn ? drawJolt() : 1);
            }
            behind[slot] = tense;
            if (tense > nerve && !isToTheEnd) {
                scream = slot;
            }
            return scream != NONE;
        }

        /** The scream of the other one in the car, who is in the same slot. */
        void hear(int slot, int echo) {
            if (scream == NONE) {
                tense += echo;
                if (tense > nerve) {
                    scream = slot;
                }
            }
        }

        /** Behind a ride: props come to are worn and known. Each is in one slot, so it is told as it was come to. */
        void wearOn() {
            int ahead = 0;
            for (int slot = 0; slot < SLOTS && behind[slot] != NONE; slot++) {
                int prop = track[slot];
                if (prop >= 0) {
                    int by = court.law.wearsBy(meet(slot, ahead));
                    worn[prop] = Math.min(WORN_MOST, worn[prop] + by);
                }
                ahead = behind[slot];
            }
            for (int slot = 0; slot < SLOTS && behind[slot] != NONE; slot++) {
                knows |= track[slot] >= 0 ? 1 << track[slot] : 0;
            }
        }

        /** The facts for the law, if one comes so tense to a slot that has a prop. */
        int[] meet(int slot, int soTense) {
            int prop = track[slot];
            if (prop >= 0) {
                facts[Law.PROP] = prop;
                facts[Law.SLOT] = slot;
                facts[Law.JERK] = court.jerk[prop];
                facts[Law.WORN] = worn[prop];
                facts[Law.TENSE] = soTense;
                facts[Law.NERVE] = nerve;
                facts[Law.KNOWS] = knows >> prop & 1;
                facts[Law.GUILTY] = deeds >> court.deed[prop] & 1;
            }
            return facts;
        }

        private int drawJolt() {
            seed = 1103515245 * seed + 12345;
            return (seed >> 16 & 32767) % 3;
        }
    }

    /** In how many rows of jolts one screams, and where: how many rows lead to each tense is carried slot by slot. */
    private static final class Ways {
        private static final int JOLTS = 3;

        int screams = 0;
        final int[] ends = new int[SLOTS];
        private int rows = 1;
        private int top = 0;
        private int[] here = new int[NERVE_MOST + 1];
        private int[] then = new int[NERVE_MOST + 1];
        private final Court court;
        private final Ride ride;

        Ways(Court court, Ride ride) {
            this.court = court;
            this.ride = ride;
        }

        int oddsOf(int one) {
            countOf(one);
            return rows == 0 ? 0 : screams * ALL_ODDS / rows;
        }

        void countOf(int one) {
            ride.board(one);
            rows = 1;
            for (int slot = 0; slot < SLOTS; slot++) {
                rows *= ride.track[slot] >= 0 ? JOLTS : 1;
            }
            screams = 0;
            here[0] = 1;
            top = 0;
            int rowsBehind = rows;
            for (int slot = 0; slot < SLOTS; slot++) {
                ends[slot] = 0;
                if (ride.track[slot] < 0) {
                    ease();
                } else {
                    rowsBehind /= JOLTS;
                    ends[slot] = spread(slot) * rowsBehind;
                    screams += ends[slot];
                }
            }
            Arrays.fill(here, 0);
        }

        private void ease() {
            int calm = court.calm;
            for (int tense = 1; tense <= top && calm > 0; tense++) {
                int many = here[tense];
                here[tense] = 0;
                here[Math.max(0, tense - calm)] += many;
            }
            top = Math.max(0, top - calm);
        }

        /** Each row goes on by three jolts: how many end in a scream there. What is left behind is empty again. */
        private int spread(int slot) {
            int most = Math.min(ride.nerve, NERVE_MOST);
            int ended = 0;
            int newTop = 0;
            for (int tense = 0; tense <= top; tense++) {
                int many = here[tense];
                here[tense] = 0;
                if (many == 0) {
                    continue;
                }
                int least = tense + court.law.frightsBy(ride.meet(slot, tense));
                for (int jolt = 0; jolt < JOLTS; jolt++) {
                    if (least + jolt > most) {
                        ended += many;
                    } else {
                        then[least + jolt] += many;
                        newTop = Math.max(newTop, least + jolt);
                    }
                }
            }
            top = newTop;
            int[] spare = here;
            here = then;
            then = spare;
            return ended;
        }
    }

    /** Somebody unknown: which of all sets of deeds fit the frights that were seen. */
    private static final class Suspects {
        private static final int SETS = 1 << DEEDS;
        private static final int FRIGHT_MOST = JERK_MOST + Law.MOST_LINES * Law.MOST_EACH;

        private final boolean[] fits = new boolean[SETS];
        private final int[] frights = new int[SETS * SLOTS];
        private final int[] many = new int[FRIGHT_MOST + 1];

        void sift(Ride ride, int nerve, Tape tape) {
            for (int set = 0; set < SETS; set++) {
                ride.boardStranger(set, nerve, 0);
                ride.toTheEnd();
                System.arraycopy(ride.frights, 0, frights, set * SLOTS, SLOTS);
                fits[set] = true;
                for (int i = 0; i + 1 < tape.length; i += 2) {
                    int slot = tape.byteAt(i);
                    if (slot < 0 || slot >= SLOTS || ride.frights[slot] != tape.byteAt(i + 1)) {
                        fits[set] = false;
                    }
                }
            }
        }

        int howMany() {
            int sum = 0;
            for (int set = 0; set < SETS; set++) {
                sum += fits[set] ? 1 : 0;
            }
            return sum;
        }

        int deedsOfAll() {
            int common = SETS - 1;
            boolean isAny = false;
            for (int set = 0; set < SETS; set++) {
                if (fits[set]) {
                    common &= set;
                    isAny = true;
                }
            }
            return isAny ? common : 0;
        }

        int bestSlot(int[] track) {
            if (howMany() < 2) {
                return NONE;
            }
            int best = NONE;
            int least = 0;
            for (int slot = 0; slot < SLOTS; slot++) {
                if (track[slot] >= 0) {
                    int part = greatestPart(slot);
                    if (best == NONE || part < least) {
                        least = part;
                        best = slot;
                    }
                }
            }
            return best;
        }

        private int greatestPart(int slot) {
            Arrays.fill(many, 0);
            int greatest = 0;
            for (int set = 0; set < SETS; set++) {
                int by = frights[set * SLOTS + slot];
                if (fits[set] && by >= 0 && by <= FRIGHT_MOST) {
                    many[by]++;
                    greatest = Math.max(greatest, many[by]);
                }
            }
            return greatest;
        }
    }
}
