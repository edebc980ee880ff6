import java.util.Arrays;

/**
 * Ten minutes twice a week: a newsreel house. The numbered promises of DOC.md say what each call
 * answers; every refusal is a negative number and changes nothing.
 */
public final class NewsreelHouse {
    public static final int UNKNOWN = -1, OUTSIDE = -2, STATE = -3, FULL = -4, NONE = -9;

    private static final int LAST_HOUR = 9999, LAST_DAY = 416, DAY_HOURS = 24, YEAR_DAYS = 365;
    private static final int PLACES = 8, HOUSE = 0, LANDS = 5, SUBJECTS = 16, MARKS = 8, KINDS = 3;
    private static final int WAYS = 24, SHOTS = 40, STORIES = 8, STORY_SHOTS = 6, RULES = 6, RIGHTS = 8;
    private static final int MEN = 4, EVENTS = 8, HALLS = 8, WEEKS = 9, RULE_BYTES = 80;
    private static final int OWN = 0, LENT = 2;
    private static final int UNTOLD = 0, AWAY = 1, SENT = 2, IN = 3, LOST = 4;

    /** Behind every hour and day that there can be. */
    private static final int NEVER = 1_000_000;

    private int theHour;
    private final Timetable timetable = new Timetable();
    private final Facts facts = new Facts();
    private final Shot[] shots = new Shot[SHOTS];
    private int shotCount;
    private final Story[] stories = new Story[STORIES];
    private int storyCount;
    private int oldAge = 30;
    private final int[] rates = {3, 1, 5};
    private final Rule[] rules = new Rule[RULES];
    private int ruleCount;
    private final Reader reader = new Reader();
    private int reservedSubjects;
    private final Right[] rights = new Right[RIGHTS];
    private int rightCount;
    private final Reels reels = new Reels();
    private final Crew crew = new Crew();
    private final Halls halls = new Halls();

    public NewsreelHouse() {
    }

    // ---- ways, hours

    public int pass(int n) {
        if (!within(n, 1, 500)) {
            return OUTSIDE;
        }
        if (theHour + n > LAST_HOUR) {
            return FULL;
        }
        theHour += n;
        return theHour;
    }

    public int way(int from, int to, int first, int every, int takes, int late) {
        if (!isPlace(from) || !isPlace(to)) {
            return UNKNOWN;
        }
        if (!isHour(first) || !within(every, 1, 500) || !within(takes, 1, 500) || !within(late, 0, 200)) {
            return OUTSIDE;
        }
        if (from == to) {
            return STATE;
        }
        if (timetable.isFull()) {
            return FULL;
        }
        return timetable.add(new Way(from, to, first, every, takes, late));
    }

    public int shut(int way) {
        Way found = timetable.numbered(way);
        if (found == null) {
            return UNKNOWN;
        }
        if (found.shut) {
            return STATE;
        }
        found.shut = true;
        return 1;
    }

    public int arrival(int from, int hour, int to, boolean worst) {
        if (!isPlace(from) || !isPlace(to)) {
            return UNKNOWN;
        }
        if (!isHour(hour)) {
            return OUTSIDE;
        }
        return timetable.earliest(from, hour, to, worst);
    }

    // ---- shots

    public int shot(int place, int hour, int feet, int subject, int marks, int kind) {
        if (!isPlace(place)) {
            return UNKNOWN;
        }
        if (!within(hour, 0, theHour) || !within(feet, 1, 900) || !isSubject(subject)) {
            return OUTSIDE;
        }
        if (!isMarkSet(marks) || !isKind(kind)) {
            return OUTSIDE;
        }
        if (shotCount >= SHOTS) {
            return FULL;
        }
        Shot told = new Shot(shotCount, place, hour, feet, subject, marks, kind);
        told.tell(theHour);
        shots[shotCount] = told;
        shotCount++;
        return told.number;
    }

    public int about(int shot, int what) {
        Shot asked = shotNumbered(shot);
        if (asked == null) {
            return UNKNOWN;
        }
        switch (what) {
            case 0: return asked.place;
            case 1: return asked.hour;
            case 2: return asked.feet;
            case 3: return asked.subject;
            case 4: return asked.marks;
            case 5: return asked.kind;
            default: return OUTSIDE;
        }
    }

    public int send(int shot) {
        Shot sent = shotNumbered(shot);
        if (sent == null) {
            return UNKNOWN;
        }
        if (sent.whereAt(theHour) != AWAY) {
            return STATE;
        }
        int best = timetable.earliest(sent.place, theHour, HOUSE, false);
        int worst = timetable.earliest(sent.place, theHour, HOUSE, true);
        if (best == NONE || worst == NONE) {
            return STATE;
        }
        sent.sentAt = theHour;
        sent.best = best;
        sent.worst = worst;
        return best;
    }

    public int expected(int shot, boolean worst) {
        Shot asked = shotNumbered(shot);
        if (asked == null) {
            return UNKNOWN;
        }
        return worst ? asked.worst : asked.best;
    }

    public int come(int shot) {
        Shot coming = shotNumbered(shot);
        if (coming == null) {
            return UNKNOWN;
        }
        if (coming.whereAt(theHour) != SENT || coming.best > theHour) {
            return STATE;
        }
        coming.cameAt = theHour;
        return theHour - coming.best;
    }

    public int lose(int shot) {
        Shot lost = shotNumbered(shot);
        if (lost == null) {
            return UNKNOWN;
        }
        int before = lost.whereAt(theHour);
        if (before == LOST) {
            return STATE;
        }
        lost.lostAt = theHour;
        return before;
    }

    public int where(int shot, int hour) {
        Shot asked = shotNumbered(shot);
        if (asked == null) {
            return UNKNOWN;
        }
        return within(hour, 0, theHour) ? asked.whereAt(hour) : OUTSIDE;
    }

    public int overdue() {
        int late = 0;
        for (int i = 0; i < shotCount; i++) {
            if (shots[i].whereAt(theHour) == SENT && shots[i].worst < theHour) {
                late++;
            }
        }
        return late;
    }

    public int fact(int mark, int places, int from, int to) {
        if (!within(mark, 0, MARKS - 1)) {
            return UNKNOWN;
        }
        if (!within(places, 0, 255) || !isDayOfYear(from) || !isDayOfYear(to)) {
            return OUTSIDE;
        }
        facts.learn(mark, places, from, to);
        return 1;
    }

    public int lie(int shot, int place, int hour) {
        Shot asked = shotNumbered(shot);
        if (asked == null || !isPlace(place)) {
            return UNKNOWN;
        }
        return isHour(hour) ? facts.firstLie(asked.marks, place, hour) : OUTSIDE;
    }

    public int find(int marks, int from, int i) {
        if (!isMarkSet(marks) || !isHour(from)) {
            return OUTSIDE;
        }
        int ahead = 0;
        for (int number = 0; number < shotCount; number++) {
            if (isCard(shots[number], marks, from)) {
                if (ahead == i) {
                    return number;
                }
                ahead++;
            }
        }
        return NONE;
    }

    // ---- stories

    public int story(int subject, int place, int hour, int worth) {
        if (!isPlace(place)) {
            return UNKNOWN;
        }
        if (!isSubject(subject) || !isHour(hour) || !within(worth, 0, 999)) {
            return OUTSIDE;
        }
        if (storyCount >= STORIES) {
            return FULL;
        }
        stories[storyCount] = new Story(subject, place, hour, worth);
        storyCount++;
        return storyCount - 1;
    }

    public int put(int story, int shot) {
        Story longer = storyNumbered(story);
        Shot added = shotNumbered(shot);
        if (longer == null || added == null) {
            return UNKNOWN;
        }
        if (added.whereAt(theHour) != IN || longer.has(added)) {
            return STATE;
        }
        return longer.append(added);
    }

    public int cut(int story, int i) {
        Story shorter = storyNumbered(story);
        return shorter == null ? UNKNOWN : shorter.remove(i);
    }

    public int say(int story, boolean said) {
        Story told = storyNumbered(story);
        if (told == null) {
            return UNKNOWN;
        }
        boolean before = told.said;
        told.said = said;
        return asNumber(before);
    }

    public int must(int story, boolean must) {
        Story told = storyNumbered(story);
        if (told == null) {
            return UNKNOWN;
        }
        boolean before = told.must;
        told.must = must;
        return asNumber(before);
    }

    public int of(int story, int what) {
        Story asked = storyNumbered(story);
        if (asked == null) {
            return UNKNOWN;
        }
        switch (what) {
            case 0: return asked.size;
            case 1: return asked.allFeet();
            case 2: return asked.disorder();
            case 3: return asked.oldOnes(oldAge);
            case 4: return asked.falseOnes(facts);
            case 5: return asked.lentOnes();
            case 6: return asNumber(asked.isReady(theHour));
            default: return OUTSIDE;
        }
    }

    public int age(int days) {
        if (!within(days, 0, 400)) {
            return OUTSIDE;
        }
        int before = oldAge;
        oldAge = days;
        return before;
    }

    public int cost(int story) {
        Story asked = storyNumbered(story);
        return asked == null ? UNKNOWN : asked.price(rates);
    }

    public int rate(int kind, int v) {
        if (!isKind(kind) || !within(v, 0, 99)) {
            return OUTSIDE;
        }
        int before = rates[kind];
        rates[kind] = v;
        return before;
    }

    // ---- rules, rights

    public int rule(int day) {
        if (!isDay(day)) {
            return OUTSIDE;
        }
        if (ruleCount >= RULES) {
            return FULL;
        }
        rules[ruleCount] = new Rule(day);
        ruleCount++;
        return ruleCount - 1;
    }

    public int feed(int rule, long bytes) {
        Rule fed = ruleNumbered(rule);
        return fed == null ? UNKNOWN : fed.append(bytes);
    }

    public int fault(int rule) {
        Rule asked = ruleNumbered(rule);
        return asked == null ? UNKNOWN : reader.read(asked);
    }

    public int strike(int rule, int day) {
        Rule struck = ruleNumbered(rule);
        if (struck == null) {
            return UNKNOWN;
        }
        if (!isDay(day)) {
            return OUTSIDE;
        }
        if (struck.struckFrom != NEVER) {
            return STATE;
        }
        struck.struckFrom = day;
        return 1;
    }

    public int bars(int story, int land, int day) {
        Story asked = storyNumbered(story);
        if (asked == null || !isLand(land)) {
            return UNKNOWN;
        }
        return isDay(day) ? firstBar(asked, land, day) : OUTSIDE;
    }

    public int reserve(int subject, boolean reserved) {
        if (!isSubject(subject)) {
            return OUTSIDE;
        }
        boolean before = hasMember(reservedSubjects, subject);
        reservedSubjects = withMember(reservedSubjects, subject, reserved);
        return asNumber(before);
    }

    public int right(int subject, int lands, int from, int to, int showings) {
        if (!isSubject(subject) || !within(lands, 0, 31) || !within(showings, 1, 99)) {
            return OUTSIDE;
        }
        if (!isDay(from) || !isDay(to) || to < from) {
            return OUTSIDE;
        }
        if (rightCount >= RIGHTS) {
            return FULL;
        }
        rights[rightCount] = new Right(subject, lands, from, to, showings);
        rightCount++;
        return rightCount - 1;
    }

    public int left(int right) {
        return within(right, 0, rightCount - 1) ? rights[right].showings : UNKNOWN;
    }

    public int allowed(int story, int land, int day) {
        Story asked = storyNumbered(story);
        if (asked == null || !isLand(land)) {
            return UNKNOWN;
        }
        if (!isDay(day)) {
            return OUTSIDE;
        }
        return asNumber(isLicensed(asked.subject, land, day) && firstBar(asked, land, day) == NONE);
    }

    // ---- reels

    public int length(boolean most, int feet) {
        return within(feet, 1, 3000) ? reels.changeLength(most, feet) : OUTSIDE;
    }

    public int apart(int a, int b, boolean apart) {
        if (storyNumbered(a) == null || storyNumbered(b) == null) {
            return UNKNOWN;
        }
        return a == b ? STATE : reels.keepApart(a, b, apart);
    }

    public int rival(int subject, boolean has) {
        if (!isSubject(subject)) {
            return OUTSIDE;
        }
        boolean before = hasMember(reels.rivalSubjects, subject);
        reels.rivalSubjects = withMember(reels.rivalSubjects, subject, has);
        return asNumber(before);
    }

    public int reel(int land, int day) {
        int refusal = refuseLandDay(land, day);
        if (refusal != 0) {
            return refusal;
        }
        listStories(land, day);
        reels.search();
        return reels.bestWorth;
    }

    public int reelAt(int land, int day, int i) {
        int refusal = refuseLandDay(land, day);
        if (refusal != 0) {
            return refusal;
        }
        listStories(land, day);
        reels.search();
        return reels.bestStory(i);
    }

    public int judge(int land, int day, long row) {
        int refusal = refuseLandDay(land, day);
        if (refusal != 0) {
            return refusal;
        }
        listStories(land, day);
        return reels.lack(row);
    }

    public int show(int land, int day) {
        int refusal = refuseLandDay(land, day);
        if (refusal != 0) {
            return refusal;
        }
        listStories(land, day);
        reels.search();
        if (reels.bestWorth == NONE) {
            return STATE;
        }
        int taken = 0;
        for (int i = 0; i < STORIES; i++) {
            Story shown = storyNumbered(reels.bestStory(i));
            if (shown != null) {
                taken += takeShowing(shown.subject, land, day);
            }
        }
        return taken;
    }

    // ---- men, events

    public int man(int man, int place, int hour) {
        if (!within(man, 0, MEN - 1) || !isPlace(place)) {
            return UNKNOWN;
        }
        if (!isHour(hour)) {
            return OUTSIDE;
        }
        crew.station(man, place, hour);
        return 1;
    }

    public int event(int place, int hour, int worth) {
        if (!isPlace(place)) {
            return UNKNOWN;
        }
        if (!isHour(hour) || !within(worth, 1, 999)) {
            return OUTSIDE;
        }
        return crew.announce(place, hour, worth);
    }

    public int cover() {
        crew.plan(timetable);
        return crew.bestWorth;
    }

    public int covered(int event) {
        if (!within(event, 0, crew.eventCount - 1)) {
            return UNKNOWN;
        }
        crew.plan(timetable);
        if (hasMember(crew.inAll, event)) {
            return 2;
        }
        return asNumber(hasMember(crew.inSome, event));
    }

    // ---- halls

    public int hall(int land, int from, int to, int take) {
        if (!isLand(land)) {
            return UNKNOWN;
        }
        if (!isWeek(from) || !isWeek(to) || to < from || !within(take, 1, 9999)) {
            return OUTSIDE;
        }
        return halls.add(from, to, take);
    }

    public int part(int week, int v) {
        return isWeek(week) && within(v, 0, 100) ? halls.changePart(week, v) : OUTSIDE;
    }

    public int prints(int n) {
        return within(n, 0, 8) ? halls.changePrints(n) : OUTSIDE;
    }

    public int run() {
        return halls.earnings();
    }

    public int week(int hall) {
        return within(hall, 0, halls.hallCount - 1) ? halls.bestWeek(hall) : UNKNOWN;
    }

    public int count(int what) {
        switch (what) {
            case 0: return shotCount;
            case 1: return shotsIn();
            case 2: return storyCount;
            case 3: return ruleCount;
            case 4: return rightCount;
            case 5: return crew.eventCount;
            case 6: return halls.hallCount;
            case 7: return theHour;
            default: return OUTSIDE;
        }
    }

    // ---- what numbers may be

    private static boolean within(int value, int least, int most) {
        return value >= least && value <= most;
    }

    private static boolean isHour(int value) {
        return within(value, 0, LAST_HOUR);
    }

    private static boolean isDay(int value) {
        return within(value, 0, LAST_DAY);
    }

    private static boolean isDayOfYear(int value) {
        return within(value, 0, YEAR_DAYS - 1);
    }

    private static boolean isPlace(int value) {
        return within(value, 0, PLACES - 1);
    }

    private static boolean isLand(int value) {
        return within(value, 0, LANDS - 1);
    }

    private static boolean isSubject(int value) {
        return within(value, 0, SUBJECTS - 1);
    }

    private static boolean isMarkSet(int value) {
        return within(value, 0, 255);
    }

    private static boolean isKind(int value) {
        return within(value, 0, KINDS - 1);
    }

    private static boolean isWeek(int value) {
        return within(value, 0, WEEKS - 1);
    }

    private static int refuseLandDay(int land, int day) {
        if (!isLand(land)) {
            return UNKNOWN;
        }
        return isDay(day) ? 0 : OUTSIDE;
    }

    private static int dayOf(int hour) {
        return hour / DAY_HOURS;
    }

    private static int asNumber(boolean value) {
        return value ? 1 : 0;
    }

    private static boolean hasMember(int set, int member) {
        return ((set >> member) & 1) != 0;
    }

    private static int withMember(int set, int member, boolean in) {
        return in ? set | (1 << member) : set & ~(1 << member);
    }

    // ---- what there is

    private Shot shotNumbered(int number) {
        return within(number, 0, shotCount - 1) ? shots[number] : null;
    }

    private Story storyNumbered(int number) {
        return within(number, 0, storyCount - 1) ? stories[number] : null;
    }

    private Rule ruleNumbered(int number) {
        return within(number, 0, ruleCount - 1) ? rules[number] : null;
    }

    private boolean isCard(Shot shot, int marks, int from) {
        return shot.whereAt(theHour) == IN && (shot.marks & marks) == marks && shot.hour >= from;
    }

    private int shotsIn() {
        int in = 0;
        for (int i = 0; i < shotCount; i++) {
            if (shots[i].whereAt(theHour) == IN) {
                in++;
            }
        }
        return in;
    }

    private int firstBar(Story story, int land, int day) {
        reader.look(story, land, story.oldOnes(oldAge), story.falseOnes(facts));
        for (int i = 0; i < ruleCount; i++) {
            if (rules[i].isInForce(day) && reader.read(rules[i]) == NONE && reader.held()) {
                return i;
            }
        }
        return NONE;
    }

    private Right firstRight(int subject, int land, int day) {
        for (int i = 0; i < rightCount; i++) {
            if (rights[i].serves(subject, land, day)) {
                return rights[i];
            }
        }
        return null;
    }

    private boolean isLicensed(int subject, int land, int day) {
        return !hasMember(reservedSubjects, subject) || firstRight(subject, land, day) != null;
    }

    /** Two stories may live on one showing: then the second one takes none. */
    private int takeShowing(int subject, int land, int day) {
        if (!hasMember(reservedSubjects, subject)) {
            return 0;
        }
        Right used = firstRight(subject, land, day);
        if (used == null) {
            return 0;
        }
        used.showings--;
        return 1;
    }

    private void listStories(int land, int day) {
        reels.clearList();
        for (int i = 0; i < storyCount; i++) {
            Story story = stories[i];
            boolean licensed = isLicensed(story.subject, land, day);
            reels.list(story, story.isReady(theHour), licensed && firstBar(story, land, day) == NONE);
        }
    }

    // ---- classes inside

    /** A way from a place to another one. */
    private static final class Way {
        final int from, to, first, every, takes, late;
        boolean shut;

        Way(int from, int to, int first, int every, int takes, int late) {
            this.from = from;
            this.to = to;
            this.first = first;
            this.every = every;
            this.takes = takes;
            this.late = late;
        }

        int leaves(int hour) {
            if (hour <= first || every < 1) {
                return first;
            }
            int rounds = (hour - first + every - 1) / every;
            return first + rounds * every;
        }

        int arrives(int hour, boolean worst) {
            if (shut || hour > LAST_HOUR || leaves(hour) > LAST_HOUR) {
                return NEVER;
            }
            return leaves(hour) + takes + (worst ? late : 0);
        }
    }

    /** All ways, and how early one can be at each place. */
    private static final class Timetable {
        private final Way[] ways = new Way[WAYS];
        private int wayCount;
        private final int[] there = new int[PLACES];

        boolean isFull() {
            return wayCount >= WAYS;
        }

        int add(Way way) {
            if (isFull()) {
                return FULL;
            }
            ways[wayCount] = way;
            wayCount++;
            return wayCount - 1;
        }

        Way numbered(int number) {
            return within(number, 0, wayCount - 1) ? ways[number] : null;
        }

        /** Waiting is free, so the earliest hour at each place is all that the next way needs. */
        void travel(int from, int hour, boolean worst) {
            Arrays.fill(there, NEVER);
            there[from] = hour;
            boolean changed = true;
            for (int round = 0; round < PLACES && changed; round++) {
                changed = false;
                for (int i = 0; i < wayCount; i++) {
                    Way way = ways[i];
                    int arrives = way.arrives(there[way.from], worst);
                    if (arrives < there[way.to]) {
                        there[way.to] = arrives;
                        changed = true;
                    }
                }
            }
        }

        boolean isThereBy(int place, int hour) {
            return there[place] <= hour;
        }

        int earliest(int from, int hour, int to, boolean worst) {
            travel(from, hour, worst);
            return there[to] == NEVER ? NONE : there[to];
        }
    }

    /** Where and when each mark can be; at first anywhere, any day. */
    private static final class Facts {
        private final int[] placeSets = {255, 255, 255, 255, 255, 255, 255, 255};
        private final int[] firstDays = new int[MARKS];
        private final int[] lastDays = {364, 364, 364, 364, 364, 364, 364, 364};

        void learn(int mark, int places, int from, int to) {
            placeSets[mark] = places;
            firstDays[mark] = from;
            lastDays[mark] = to;
        }

        private boolean canBe(int mark, int place, int hour) {
            int day = dayOf(hour) % YEAR_DAYS;
            int from = firstDays[mark];
            int to = lastDays[mark];
            boolean inSeason = from <= to ? within(day, from, to) : day >= from || day <= to;
            return inSeason && hasMember(placeSets[mark], place);
        }

        int firstLie(int marks, int place, int hour) {
            for (int mark = 0; mark < MARKS; mark++) {
                if (hasMember(marks, mark) && !canBe(mark, place, hour)) {
                    return mark;
                }
            }
            return NONE;
        }
    }

    /** A shot and the hours at which it became what; it never goes back, so one hour of each is enough. */
    private static final class Shot {
        final int number, place, hour, feet, subject, marks, kind;
        private int toldAt;
        private int sentAt = NEVER, cameAt = NEVER, lostAt = NEVER;
        private int best = NONE, worst = NONE;

        Shot(int number, int place, int hour, int feet, int subject, int marks, int kind) {
            this.number = number;
            this.place = place;
            this.hour = hour;
            this.feet = feet;
            this.subject = subject;
            this.marks = marks;
            this.kind = kind;
        }

        void tell(int now) {
            toldAt = now;
            if (kind != OWN) {
                cameAt = now;
            }
        }

        int whereAt(int when) {
            if (when < toldAt) {
                return UNTOLD;
            }
            if (when >= lostAt) {
                return LOST;
            }
            if (when >= cameAt) {
                return IN;
            }
            return when >= sentAt ? SENT : AWAY;
        }
    }

    /** A story: shots in order. */
    private static final class Story {
        final int subject, place, hour, worth;
        private final Shot[] row = new Shot[STORY_SHOTS];
        private int size;
        private boolean said, must;

        Story(int subject, int place, int hour, int worth) {
            this.subject = subject;
            this.place = place;
            this.hour = hour;
            this.worth = worth;
        }

        boolean has(Shot shot) {
            for (int i = 0; i < size; i++) {
                if (row[i] == shot) {
                    return true;
                }
            }
            return false;
        }

        int append(Shot shot) {
            if (size >= STORY_SHOTS) {
                return FULL;
            }
            row[size] = shot;
            size++;
            return size;
        }

        int remove(int i) {
            if (!within(i, 0, size - 1)) {
                return OUTSIDE;
            }
            int number = row[i].number;
            for (int k = i + 1; k < size; k++) {
                row[k - 1] = row[k];
            }
            size--;
            return number;
        }

        int allFeet() {
            int feet = 0;
            for (int i = 0; i < size; i++) {
                feet += row[i].feet;
            }
            return feet;
        }

        int disorder() {
            for (int i = 1; i < size; i++) {
                int before = row[i - 1].hour;
                int here = row[i].hour;
                if (here < before || dayOf(here) != dayOf(before)) {
                    return i;
                }
            }
            return NONE;
        }

        int oldOnes(int age) {
            int old = 0;
            for (int i = 0; i < size; i++) {
                if (dayOf(hour) - dayOf(row[i].hour) > age) {
                    old++;
                }
            }
            return old;
        }

        int falseOnes(Facts facts) {
            int wrong = 0;
            for (int i = 0; i < size; i++) {
                if (facts.firstLie(row[i].marks, place, hour) != NONE) {
                    wrong++;
                }
            }
            return wrong;
        }

        int lentOnes() {
            int lent = 0;
            for (int i = 0; i < size; i++) {
                if (row[i].kind == LENT) {
                    lent++;
                }
            }
            return lent;
        }

        boolean isReady(int now) {
            for (int i = 0; i < size; i++) {
                if (row[i].whereAt(now) != IN) {
                    return false;
                }
            }
            return size > 0;
        }

        int price(int[] rates) {
            int sum = 0;
            for (int i = 0; i < size; i++) {
                sum += row[i].feet * rates[row[i].kind];
            }
            return sum;
        }
    }

    /** A land's rule: a text, and the days of its force. */
    private static final class Rule {
        final int from;
        private int struckFrom = NEVER;
        private final int[] text = new int[RULE_BYTES];
        private int size;

        Rule(int from) {
            this.from = from;
        }

        int append(long bytes) {
            int more = 0;
            while (more < 8 && byteAt(bytes, more) != 0) {
                more++;
            }
            if (size + more > RULE_BYTES) {
                return FULL;
            }
            for (int i = 0; i < more; i++) {
                text[size + i] = byteAt(bytes, i);
            }
            size += more;
            return size;
        }

        private static int byteAt(long bytes, int i) {
            return (int) ((bytes >>> (8 * i)) & 255);
        }

        boolean isInForce(int day) {
            return day >= from && day < struckFrom;
        }
    }

    /**
     * Reads a rule's text byte by byte, finds its fault and whether it holds, both in one going, with
     * a row in place of recursion, as a text may open as many brackets as it has bytes.
     */
    private static final class Reader {
        private static final int WANTS_ONE = 0, WANTS_SIGN = 1, WANTS_NUMBER = 2, IN_NUMBER = 3, WANTS_JOINT = 4;

        private final int[] values = new int[8];
        private final boolean[] earlierHeld = new boolean[RULE_BYTES + 1];
        private final boolean[] allHold = new boolean[RULE_BYTES + 1];
        private final boolean[] turned = new boolean[RULE_BYTES + 1];
        private int depth;
        private int state;
        private int letter;
        private int sign;
        private int number;
        private int digits;

        /** What the letters stand for, in the order of letterIndex. */
        void look(Story story, int land, int oldOnes, int falseOnes) {
            values[0] = story.subject;
            values[1] = story.place;
            values[2] = land;
            values[3] = story.allFeet();
            values[4] = oldOnes;
            values[5] = story.said ? 0 : oldOnes;
            values[6] = falseOnes;
            values[7] = story.lentOnes();
        }

        private static int letterIndex(int b) {
            switch (b) {
                case 's': return 0;
                case 'p': return 1;
                case 'l': return 2;
                case 'f': return 3;
                case 'o': return 4;
                case 'u': return 5;
                case 'x': return 6;
                case 'k': return 7;
                default: return -1;
            }
        }

        /** Whether the rule that was read last, and has no fault, holds. */
        boolean held() {
            return earlierHeld[0] || allHold[0];
        }

        /** The fault of a rule, or NONE. */
        int read(Rule rule) {
            depth = 0;
            openLevel();
            for (int i = 0; i < rule.size; i++) {
                if (!take(rule.text[i])) {
                    return i;
                }
            }
            endNumber();
            return state == WANTS_JOINT && depth == 0 ? NONE : rule.size;
        }

        private boolean take(int b) {
            if (state == IN_NUMBER && isDigit(b) && digits < 4) {
                return takeDigit(b);
            }
            endNumber();
            if (b == ' ') {
                return true;
            }
            switch (state) {
                case WANTS_ONE: return takeOne(b);
                case WANTS_SIGN: return takeSign(b);
                case WANTS_NUMBER: return isDigit(b) && takeDigit(b);
                default: return takeJoint(b);
            }
        }

        private boolean takeOne(int b) {
            if (b == '!') {
                turned[depth] = !turned[depth];
                return true;
            }
            if (b == '(' && depth < RULE_BYTES) {
                depth++;
                openLevel();
                return true;
            }
            letter = letterIndex(b);
            state = WANTS_SIGN;
            return letter >= 0;
        }

        private boolean takeSign(int b) {
            sign = b;
            number = 0;
            digits = 0;
            state = WANTS_NUMBER;
            return b == '<' || b == '=' || b == '>';
        }

        private boolean takeDigit(int b) {
            number = number * 10 + b - '0';
            digits++;
            state = IN_NUMBER;
            return true;
        }

        private boolean takeJoint(int b) {
            if (b == ')' && depth > 0) {
                boolean held = earlierHeld[depth] || allHold[depth];
                depth--;
                endOne(held);
                return true;
            }
            if (b == '|') {
                earlierHeld[depth] = earlierHeld[depth] || allHold[depth];
                allHold[depth] = true;
            }
            state = WANTS_ONE;
            return b == '|' || b == '&';
        }

        private static boolean isDigit(int b) {
            return within(b, '0', '9');
        }

        private void openLevel() {
            earlierHeld[depth] = false;
            allHold[depth] = true;
            turned[depth] = false;
            state = WANTS_ONE;
        }

        private void endNumber() {
            if (state == IN_NUMBER) {
                endOne(compares());
            }
        }

        private boolean compares() {
            int value = values[letter];
            if (sign == '<') {
                return value < number;
            }
            return sign == '>' ? value > number : value == number;
        }

        private void endOne(boolean held) {
            allHold[depth] = allHold[depth] && held != turned[depth];
            turned[depth] = false;
            state = WANTS_JOINT;
        }
    }

    /** A right to a subject, with the showings that are left of it. */
    private static final class Right {
        final int subject, lands, from, to;
        private int showings;

        Right(int subject, int lands, int from, int to, int showings) {
            this.subject = subject;
            this.lands = lands;
            this.from = from;
            this.to = to;
            this.showings = showings;
        }

        boolean serves(int asked, int land, int day) {
            return subject == asked && hasMember(lands, land) && within(day, from, to) && showings > 0;
        }
    }

    /** What a reel may be, and the best one of the stories that are listed. */
    private static final class Reels {
        private static final int[] NINES = {1, 9, 81, 729, 6561, 59049, 531441, 4782969};
        private static final int END = 8;

        private int least = 100, most = 900;
        private final int[] apartFrom = new int[STORIES];
        private int rivalSubjects;

        private int listed, readySet, allowedSet, mustSet;
        private final int[] feet = new int[STORIES];
        private final int[] worth = new int[STORIES];

        private final int[] rowOf = new int[(1 << STORIES) * STORIES];
        private int bestWorth, bestRow;

        int changeLength(boolean upper, int value) {
            if (upper ? value < least : value > most) {
                return STATE;
            }
            int before = upper ? most : least;
            if (upper) {
                most = value;
            } else {
                least = value;
            }
            return before;
        }

        int keepApart(int a, int b, boolean apart) {
            boolean before = hasMember(apartFrom[a], b);
            apartFrom[a] = withMember(apartFrom[a], b, apart);
            apartFrom[b] = withMember(apartFrom[b], a, apart);
            return asNumber(before);
        }

        void clearList() {
            listed = 0;
            readySet = 0;
            allowedSet = 0;
            mustSet = 0;
        }

        void list(Story story, boolean ready, boolean allowed) {
            if (listed >= STORIES) {
                return;
            }
            readySet = withMember(readySet, listed, ready);
            allowedSet = withMember(allowedSet, listed, allowed);
            mustSet = withMember(mustSet, listed, story.must && ready && allowed);
            feet[listed] = story.allFeet();
            worth[listed] = hasMember(rivalSubjects, story.subject) ? story.worth / 2 : story.worth;
            listed++;
        }

        private int sumOver(int set, int[] amounts) {
            int sum = 0;
            for (int i = 0; i < listed; i++) {
                if (hasMember(set, i)) {
                    sum += amounts[i];
                }
            }
            return sum;
        }

        private boolean hasLength(int set) {
            return within(sumOver(set, feet), least, most);
        }

        int lack(long row) {
            int set = 0;
            int last = -1;
            boolean clash = false;
            for (int i = 0; i < 16; i++) {
                int story = (int) ((row >>> (4 * i)) & 15) - 1;
                if (story < 0) {
                    break;
                }
                if (story >= listed || hasMember(set, story)) {
                    return 1;
                }
                clash = clash || last >= 0 && hasMember(apartFrom[story], last);
                set = withMember(set, story, true);
                last = story;
            }
            if ((set & ~readySet) != 0) {
                return 2;
            }
            if ((set & ~allowedSet) != 0) {
                return 3;
            }
            if (clash) {
                return 4;
            }
            if (!hasLength(set)) {
                return 5;
            }
            return (mustSet & ~set) != 0 ? 6 : 0;
        }

        /**
         * A row is a number of eight figures to the base 9, the first story's figure the highest, a
         * lower story the greater figure, the end the greatest: of like rows the greatest number is
         * the first row. Of all rows of one set with one last story only the greatest can go on to
         * the best, so one number for each is enough.
         */
        void search() {
            bestWorth = NONE;
            bestRow = -1;
            int usable = readySet & allowedSet;
            for (int set = 1; set < 1 << listed; set++) {
                if ((set & ~usable) == 0) {
                    int row = greatestRow(set);
                    if (row >= 0 && (mustSet & ~set) == 0 && hasLength(set)) {
                        offer(sumOver(set, worth), row + NINES[STORIES - Integer.bitCount(set)] - 1);
                    }
                }
            }
        }

        private int greatestRow(int set) {
            int greatest = -1;
            for (int last = 0; last < listed; last++) {
                if (hasMember(set, last)) {
                    int row = greatestRowTo(set, last);
                    rowOf[set * STORIES + last] = row;
                    greatest = Math.max(greatest, row);
                }
            }
            return greatest;
        }

        private int greatestRowTo(int set, int last) {
            int rest = withMember(set, last, false);
            int ahead = rest == 0 ? 0 : -1;
            for (int i = 0; i < listed; i++) {
                if (hasMember(rest & ~apartFrom[last], i)) {
                    ahead = Math.max(ahead, rowOf[rest * STORIES + i]);
                }
            }
            int figure = (END - 1 - last) * NINES[STORIES - Integer.bitCount(set)];
            return ahead < 0 ? -1 : ahead + figure;
        }

        private void offer(int rowWorth, int row) {
            if (rowWorth > bestWorth || rowWorth == bestWorth && row > bestRow) {
                bestWorth = rowWorth;
                bestRow = row;
            }
        }

        int bestStory(int i) {
            if (bestRow < 0 || !within(i, 0, STORIES - 1)) {
                return NONE;
            }
            int figures = bestRow;
            for (int behind = STORIES - 1; behind > i; behind--) {
                figures /= 9;
            }
            int figure = figures % 9;
            return figure == END ? NONE : END - 1 - figure;
        }
    }

    /** Men, and the events to which they may be sent. */
    private static final class Crew {
        private final int[] manPlaces = {NONE, NONE, NONE, NONE};
        private final int[] manHours = new int[MEN];
        private int eventCount;
        private final int[] places = new int[EVENTS];
        private final int[] hours = new int[EVENTS];
        private final int[] worths = new int[EVENTS];

        private final int[] byHour = new int[EVENTS];
        private final int[] nextOnes = new int[EVENTS];
        private final boolean[] oneManDoes = new boolean[1 << EVENTS];
        private final boolean[] menDo = new boolean[1 << EVENTS];
        private int bestWorth, inAll, inSome;

        void station(int man, int place, int hour) {
            manPlaces[man] = place;
            manHours[man] = hour;
        }

        int announce(int place, int hour, int worth) {
            if (eventCount >= EVENTS) {
                return FULL;
            }
            places[eventCount] = place;
            hours[eventCount] = hour;
            worths[eventCount] = worth;
            insertByHour(eventCount, hour);
            eventCount++;
            return eventCount - 1;
        }

        private void insertByHour(int event, int hour) {
            int at = event;
            while (at > 0 && hours[byHour[at - 1]] > hour) {
                byHour[at] = byHour[at - 1];
                at--;
            }
            byHour[at] = event;
        }

        /** Sets of events here are of their ranks by hour, as a man goes to them in that order. */
        void plan(Timetable timetable) {
            for (int rank = 0; rank < eventCount; rank++) {
                int event = byHour[rank];
                nextOnes[rank] = reachable(timetable, places[event], hours[event]);
            }
            for (int set = 0; set < 1 << EVENTS; set++) {
                menDo[set] = set == 0;
            }
            for (int man = 0; man < MEN; man++) {
                if (manPlaces[man] != NONE) {
                    addMan(reachable(timetable, manPlaces[man], manHours[man]));
                }
            }
            chooseBest();
        }

        private int reachable(Timetable timetable, int place, int hour) {
            timetable.travel(place, hour, true);
            int set = 0;
            for (int rank = 0; rank < eventCount; rank++) {
                int event = byHour[rank];
                set = withMember(set, rank, timetable.isThereBy(places[event], hours[event]));
            }
            return set;
        }

        private void addMan(int firstOnes) {
            for (int set = 1; set < 1 << eventCount; set++) {
                oneManDoes[set] = canDo(set, firstOnes);
            }
            for (int set = (1 << eventCount) - 1; set > 0; set--) {
                for (int own = set; own > 0 && !menDo[set]; own = (own - 1) & set) {
                    menDo[set] = oneManDoes[own] && menDo[set ^ own];
                }
            }
        }

        private boolean canDo(int set, int firstOnes) {
            int last = highest(set);
            int rest = withMember(set, last, false);
            if (rest == 0) {
                return hasMember(firstOnes, last);
            }
            return oneManDoes[rest] && hasMember(nextOnes[highest(rest)], last);
        }

        private static int highest(int set) {
            return 31 - Integer.numberOfLeadingZeros(set | 1);
        }

        private void chooseBest() {
            bestWorth = 0;
            inAll = 0;
            inSome = 0;
            for (int set = 1; set < 1 << eventCount; set++) {
                if (menDo[set]) {
                    offer(set);
                }
            }
        }

        private void offer(int ranks) {
            int sum = 0;
            int events = 0;
            for (int rank = 0; rank < eventCount; rank++) {
                if (hasMember(ranks, rank)) {
                    sum += worths[byHour[rank]];
                    events = withMember(events, byHour[rank], true);
                }
            }
            if (sum > bestWorth) {
                bestWorth = sum;
                inAll = events;
                inSome = events;
            } else if (sum == bestWorth) {
                inAll &= events;
                inSome |= events;
            }
        }
    }

    /** Halls, and the weeks in which they have a print. No answer asks for a hall's land. */
    private static final class Halls {
        private static final int[] TENS = {1, 10, 100, 1000, 10000, 100000, 1000000, 10000000};
        private static final long EARNED = 100000000L;

        private int hallCount;
        private final int[] froms = new int[HALLS];
        private final int[] tos = new int[HALLS];
        private final int[] takes = new int[HALLS];
        private final int[] parts = {100, 100, 100, 100, 100, 100, 100, 100, 100};
        private int printCount = 1;

        private final long[] gains = new long[HALLS];
        private final long[] soFar = new long[1 << HALLS];
        private boolean searched;

        int add(int from, int to, int take) {
            if (hallCount >= HALLS) {
                return FULL;
            }
            froms[hallCount] = from;
            tos[hallCount] = to;
            takes[hallCount] = take;
            hallCount++;
            searched = false;
            return hallCount - 1;
        }

        int changePart(int week, int value) {
            int before = parts[week];
            parts[week] = value;
            searched = false;
            return before;
        }

        int changePrints(int value) {
            int before = printCount;
            printCount = value;
            searched = false;
            return before;
        }

        int earnings() {
            return (int) (bestRun() / EARNED);
        }

        int bestWeek(int hall) {
            long figures = bestRun();
            for (int behind = HALLS - 1; behind > hall; behind--) {
                figures /= 10;
            }
            int figure = (int) (figures % 10);
            return figure == 0 ? NONE : WEEKS - figure;
        }

        /** Asked for hall by hall, so that what was found stays till something changes. */
        private long bestRun() {
            if (!searched) {
                search();
                searched = true;
            }
            return soFar[(1 << hallCount) - 1];
        }

        /**
         * A run is a number: what it earns ahead of eight figures, one for each hall, the earlier its
         * week the greater, 0 for none: the greatest number is the best run.
         */
        private void search() {
            Arrays.fill(soFar, 0L);
            for (int week = 0; week < WEEKS; week++) {
                int open = openIn(week);
                int useful = Math.min(printCount, Integer.bitCount(open));
                for (int print = 0; print < useful; print++) {
                    addPrint(open);
                }
            }
        }

        /** The halls that a week is one of, with what each gains by it. */
        private int openIn(int week) {
            int open = 0;
            for (int hall = 0; hall < hallCount; hall++) {
                long earned = takes[hall] * parts[week] / 100;
                gains[hall] = earned * EARNED + (WEEKS - week) * TENS[HALLS - 1 - hall];
                open = withMember(open, hall, within(week, froms[hall], tos[hall]));
            }
            return open;
        }

        /** From the greatest set down, so that one print goes to one hall alone. */
        private void addPrint(int open) {
            for (int set = (1 << hallCount) - 1; set > 0; set--) {
                for (int hall = 0; hall < hallCount; hall++) {
                    if (hasMember(set & open, hall)) {
                        soFar[set] = Math.max(soFar[set], soFar[set ^ (1 << hall)] + gains[hall]);
                    }
                }
            }
        }
    }
}
